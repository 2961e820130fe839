section
-- ===== PART A: goes FIRST, ahead of the names: the tables' words, and 'selects' of the private methods out of them =====
/-- a private method of a class that the tables say can be made, by its rows of tables_1 -/
def lw_okq (q : MethodName × Nat) : Prop := (q.1.cls ≠ "java/lang/invoke/MethodHandle" ∧ q.1.cls ≠ "java/lang/invoke/VarHandle") ∧ Cond.instantiable q.1.cls q.2 ∈ tables_1 ∧ Cond.privateMethod q.1 ∈ tables_1 ∧ Cond.instanceMethod q.1 ∈ tables_1
theorem lw_p0 : lw_okq (⟨"ShireLines", "refuse", "(J)J"⟩, 5) := ⟨⟨by decide +kernel, by decide +kernel⟩, List.mem_of_getElem? (i := 15) (by decide +kernel), List.mem_of_getElem? (i := 192) (by decide +kernel), List.mem_of_getElem? (i := 193) (by decide +kernel)⟩
theorem lw_p1 : lw_okq (⟨"ShireLines", "tellAct", "(IIIIJ)J"⟩, 5) := ⟨⟨by decide +kernel, by decide +kernel⟩, List.mem_of_getElem? (i := 15) (by decide +kernel), List.mem_of_getElem? (i := 241) (by decide +kernel), List.mem_of_getElem? (i := 242) (by decide +kernel)⟩
theorem lw_p2 : lw_okq (⟨"ShireLines$Chronicle", "doneUpTo", "(I)I"⟩, 6) := ⟨⟨by decide +kernel, by decide +kernel⟩, List.mem_of_getElem? (i := 23) (by decide +kernel), List.mem_of_getElem? (i := 254) (by decide +kernel), List.mem_of_getElem? (i := 255) (by decide +kernel)⟩
theorem lw_p3 : lw_okq (⟨"ShireLines$Chronicle", "redoFrom", "(I)V"⟩, 6) := ⟨⟨by decide +kernel, by decide +kernel⟩, List.mem_of_getElem? (i := 23) (by decide +kernel), List.mem_of_getElem? (i := 261) (by decide +kernel), List.mem_of_getElem? (i := 262) (by decide +kernel)⟩
theorem lw_p4 : lw_okq (⟨"ShireLines$Chronicle", "perform", "(LShireLines$Act;LShireLines$Moment;)Z"⟩, 6) := ⟨⟨by decide +kernel, by decide +kernel⟩, List.mem_of_getElem? (i := 23) (by decide +kernel), List.mem_of_getElem? (i := 270) (by decide +kernel), List.mem_of_getElem? (i := 271) (by decide +kernel)⟩
theorem lw_p5 : lw_okq (⟨"ShireLines$Chronicle", "performSwallow", "(LShireLines$Act;LShireLines$Moment;)Z"⟩, 6) := ⟨⟨by decide +kernel, by decide +kernel⟩, List.mem_of_getElem? (i := 23) (by decide +kernel), List.mem_of_getElem? (i := 302) (by decide +kernel), List.mem_of_getElem? (i := 303) (by decide +kernel)⟩
theorem lw_p6 : lw_okq (⟨"ShireLines$Chronicle", "performBack", "(LShireLines$Act;LShireLines$Moment;)Z"⟩, 6) := ⟨⟨by decide +kernel, by decide +kernel⟩, List.mem_of_getElem? (i := 23) (by decide +kernel), List.mem_of_getElem? (i := 310) (by decide +kernel), List.mem_of_getElem? (i := 311) (by decide +kernel)⟩
theorem lw_p7 : lw_okq (⟨"ShireLines", "tellPassing", "(IIIIJ)J"⟩, 5) := ⟨⟨by decide +kernel, by decide +kernel⟩, List.mem_of_getElem? (i := 15) (by decide +kernel), List.mem_of_getElem? (i := 333) (by decide +kernel), List.mem_of_getElem? (i := 334) (by decide +kernel)⟩
theorem lw_p8 : lw_okq (⟨"ShireLines", "isClaim", "(I)Z"⟩, 5) := ⟨⟨by decide +kernel, by decide +kernel⟩, List.mem_of_getElem? (i := 15) (by decide +kernel), List.mem_of_getElem? (i := 509) (by decide +kernel), List.mem_of_getElem? (i := 510) (by decide +kernel)⟩
theorem lw_p9 : lw_okq (⟨"ShireLines$Chart", "rightCells", "(LShireLines$Moment;)J"⟩, 2) := ⟨⟨by decide +kernel, by decide +kernel⟩, List.mem_of_getElem? (i := 136) (by decide +kernel), List.mem_of_getElem? (i := 537) (by decide +kernel), List.mem_of_getElem? (i := 538) (by decide +kernel)⟩
theorem lw_p10 : lw_okq (⟨"ShireLines", "bestYear", "(LShireLines$Chart;II)I"⟩, 5) := ⟨⟨by decide +kernel, by decide +kernel⟩, List.mem_of_getElem? (i := 15) (by decide +kernel), List.mem_of_getElem? (i := 553) (by decide +kernel), List.mem_of_getElem? (i := 554) (by decide +kernel)⟩
theorem lw_p11 : lw_okq (⟨"ShireLines$Tally", "standsFor", "(II)Z"⟩, 4) := ⟨⟨by decide +kernel, by decide +kernel⟩, List.mem_of_getElem? (i := 113) (by decide +kernel), List.mem_of_getElem? (i := 589) (by decide +kernel), List.mem_of_getElem? (i := 590) (by decide +kernel)⟩
theorem lw_p12 : lw_okq (⟨"ShireLines", "claimOf", "(I)I"⟩, 5) := ⟨⟨by decide +kernel, by decide +kernel⟩, List.mem_of_getElem? (i := 15) (by decide +kernel), List.mem_of_getElem? (i := 643) (by decide +kernel), List.mem_of_getElem? (i := 644) (by decide +kernel)⟩
theorem lw_p13 : lw_okq (⟨"ShireLinesModel", "told0", "(J)J"⟩, 26) := ⟨⟨by decide +kernel, by decide +kernel⟩, List.mem_of_getElem? (i := 655) (by decide +kernel), List.mem_of_getElem? (i := 750) (by decide +kernel), List.mem_of_getElem? (i := 751) (by decide +kernel)⟩
theorem lw_p14 : lw_okq (⟨"ShireLinesModel", "isUnit", "(I)Z"⟩, 26) := ⟨⟨by decide +kernel, by decide +kernel⟩, List.mem_of_getElem? (i := 655) (by decide +kernel), List.mem_of_getElem? (i := 759) (by decide +kernel), List.mem_of_getElem? (i := 760) (by decide +kernel)⟩
theorem lw_p15 : lw_okq (⟨"ShireLinesModel", "isHundred", "(I)Z"⟩, 26) := ⟨⟨by decide +kernel, by decide +kernel⟩, List.mem_of_getElem? (i := 655) (by decide +kernel), List.mem_of_getElem? (i := 773) (by decide +kernel), List.mem_of_getElem? (i := 774) (by decide +kernel)⟩
def lw_privs_1 : List (MethodName × Nat) := [(⟨"ShireLines", "refuse", "(J)J"⟩, 5), (⟨"ShireLines", "tellAct", "(IIIIJ)J"⟩, 5), (⟨"ShireLines$Chronicle", "doneUpTo", "(I)I"⟩, 6), (⟨"ShireLines$Chronicle", "redoFrom", "(I)V"⟩, 6), (⟨"ShireLines$Chronicle", "perform", "(LShireLines$Act;LShireLines$Moment;)Z"⟩, 6), (⟨"ShireLines$Chronicle", "performSwallow", "(LShireLines$Act;LShireLines$Moment;)Z"⟩, 6), (⟨"ShireLines$Chronicle", "performBack", "(LShireLines$Act;LShireLines$Moment;)Z"⟩, 6), (⟨"ShireLines", "tellPassing", "(IIIIJ)J"⟩, 5), (⟨"ShireLines", "isClaim", "(I)Z"⟩, 5), (⟨"ShireLines$Chart", "rightCells", "(LShireLines$Moment;)J"⟩, 2), (⟨"ShireLines", "bestYear", "(LShireLines$Chart;II)I"⟩, 5), (⟨"ShireLines$Tally", "standsFor", "(II)Z"⟩, 4), (⟨"ShireLines", "claimOf", "(I)I"⟩, 5), (⟨"ShireLinesModel", "told0", "(J)J"⟩, 26), (⟨"ShireLinesModel", "isUnit", "(I)Z"⟩, 26), (⟨"ShireLinesModel", "isHundred", "(I)Z"⟩, 26)]
theorem lw_r1 : ∀ q ∈ lw_privs_1, lw_okq q := List.forall_mem_cons.mpr ⟨lw_p0, List.forall_mem_cons.mpr ⟨lw_p1, List.forall_mem_cons.mpr ⟨lw_p2, List.forall_mem_cons.mpr ⟨lw_p3, List.forall_mem_cons.mpr ⟨lw_p4, List.forall_mem_cons.mpr ⟨lw_p5, List.forall_mem_cons.mpr ⟨lw_p6, List.forall_mem_cons.mpr ⟨lw_p7, List.forall_mem_cons.mpr ⟨lw_p8, List.forall_mem_cons.mpr ⟨lw_p9, List.forall_mem_cons.mpr ⟨lw_p10, List.forall_mem_cons.mpr ⟨lw_p11, List.forall_mem_cons.mpr ⟨lw_p12, List.forall_mem_cons.mpr ⟨lw_p13, List.forall_mem_cons.mpr ⟨lw_p14, List.forall_mem_cons.mpr ⟨lw_p15, fun _ h => absurd h List.not_mem_nil⟩⟩⟩⟩⟩⟩⟩⟩⟩⟩⟩⟩⟩⟩⟩⟩
theorem lw_p16 : lw_okq (⟨"ShireLinesModel", "add", "(IIIIJ)J"⟩, 26) := ⟨⟨by decide +kernel, by decide +kernel⟩, List.mem_of_getElem? (i := 655) (by decide +kernel), List.mem_of_getElem? (i := 777) (by decide +kernel), List.mem_of_getElem? (i := 778) (by decide +kernel)⟩
theorem lw_p17 : lw_okq (⟨"ShireLinesModel", "done", "()V"⟩, 26) := ⟨⟨by decide +kernel, by decide +kernel⟩, List.mem_of_getElem? (i := 655) (by decide +kernel), List.mem_of_getElem? (i := 803) (by decide +kernel), List.mem_of_getElem? (i := 804) (by decide +kernel)⟩
theorem lw_p18 : lw_okq (⟨"ShireLinesModel", "does", "(II)Z"⟩, 26) := ⟨⟨by decide +kernel, by decide +kernel⟩, List.mem_of_getElem? (i := 655) (by decide +kernel), List.mem_of_getElem? (i := 807) (by decide +kernel), List.mem_of_getElem? (i := 808) (by decide +kernel)⟩
theorem lw_p19 : lw_okq (⟨"ShireLinesModel", "gives", "(IIIJ)I"⟩, 26) := ⟨⟨by decide +kernel, by decide +kernel⟩, List.mem_of_getElem? (i := 655) (by decide +kernel), List.mem_of_getElem? (i := 811) (by decide +kernel), List.mem_of_getElem? (i := 812) (by decide +kernel)⟩
theorem lw_p20 : lw_okq (⟨"ShireLinesModel", "turnsBack", "(II)Z"⟩, 26) := ⟨⟨by decide +kernel, by decide +kernel⟩, List.mem_of_getElem? (i := 655) (by decide +kernel), List.mem_of_getElem? (i := 816) (by decide +kernel), List.mem_of_getElem? (i := 817) (by decide +kernel)⟩
theorem lw_p21 : lw_okq (⟨"ShireLinesModel", "until", "(I)I"⟩, 26) := ⟨⟨by decide +kernel, by decide +kernel⟩, List.mem_of_getElem? (i := 655) (by decide +kernel), List.mem_of_getElem? (i := 833) (by decide +kernel), List.mem_of_getElem? (i := 834) (by decide +kernel)⟩
theorem lw_p22 : lw_okq (⟨"ShireLinesModel", "held", "(II)J"⟩, 26) := ⟨⟨by decide +kernel, by decide +kernel⟩, List.mem_of_getElem? (i := 655) (by decide +kernel), List.mem_of_getElem? (i := 845) (by decide +kernel), List.mem_of_getElem? (i := 846) (by decide +kernel)⟩
theorem lw_p23 : lw_okq (⟨"ShireLinesModel", "areUnlike", "(III)Z"⟩, 26) := ⟨⟨by decide +kernel, by decide +kernel⟩, List.mem_of_getElem? (i := 655) (by decide +kernel), List.mem_of_getElem? (i := 881) (by decide +kernel), List.mem_of_getElem? (i := 882) (by decide +kernel)⟩
theorem lw_p24 : lw_okq (⟨"ShireLinesModel", "claimsOf", "(I)I"⟩, 26) := ⟨⟨by decide +kernel, by decide +kernel⟩, List.mem_of_getElem? (i := 655) (by decide +kernel), List.mem_of_getElem? (i := 908) (by decide +kernel), List.mem_of_getElem? (i := 909) (by decide +kernel)⟩
theorem lw_p25 : lw_okq (⟨"ShireLinesModel", "agrees", "(II)I"⟩, 26) := ⟨⟨by decide +kernel, by decide +kernel⟩, List.mem_of_getElem? (i := 655) (by decide +kernel), List.mem_of_getElem? (i := 912) (by decide +kernel), List.mem_of_getElem? (i := 913) (by decide +kernel)⟩
theorem lw_p26 : lw_okq (⟨"ShireLinesModel", "latest", "(II)I"⟩, 26) := ⟨⟨by decide +kernel, by decide +kernel⟩, List.mem_of_getElem? (i := 655) (by decide +kernel), List.mem_of_getElem? (i := 933) (by decide +kernel), List.mem_of_getElem? (i := 934) (by decide +kernel)⟩
def lw_privs_2 : List (MethodName × Nat) := [(⟨"ShireLinesModel", "add", "(IIIIJ)J"⟩, 26), (⟨"ShireLinesModel", "done", "()V"⟩, 26), (⟨"ShireLinesModel", "does", "(II)Z"⟩, 26), (⟨"ShireLinesModel", "gives", "(IIIJ)I"⟩, 26), (⟨"ShireLinesModel", "turnsBack", "(II)Z"⟩, 26), (⟨"ShireLinesModel", "until", "(I)I"⟩, 26), (⟨"ShireLinesModel", "held", "(II)J"⟩, 26), (⟨"ShireLinesModel", "areUnlike", "(III)Z"⟩, 26), (⟨"ShireLinesModel", "claimsOf", "(I)I"⟩, 26), (⟨"ShireLinesModel", "agrees", "(II)I"⟩, 26), (⟨"ShireLinesModel", "latest", "(II)I"⟩, 26)]
theorem lw_r2 : ∀ q ∈ lw_privs_2, lw_okq q := List.forall_mem_cons.mpr ⟨lw_p16, List.forall_mem_cons.mpr ⟨lw_p17, List.forall_mem_cons.mpr ⟨lw_p18, List.forall_mem_cons.mpr ⟨lw_p19, List.forall_mem_cons.mpr ⟨lw_p20, List.forall_mem_cons.mpr ⟨lw_p21, List.forall_mem_cons.mpr ⟨lw_p22, List.forall_mem_cons.mpr ⟨lw_p23, List.forall_mem_cons.mpr ⟨lw_p24, List.forall_mem_cons.mpr ⟨lw_p25, List.forall_mem_cons.mpr ⟨lw_p26, fun _ h => absurd h List.not_mem_nil⟩⟩⟩⟩⟩⟩⟩⟩⟩⟩⟩
def lw_privs : List (MethodName × Nat) := lw_privs_1 ++ (lw_privs_2)
def lw_tbl : List Cond := k2_sels lw_privs ++ tables_1
theorem lw_privs_ok : ∀ q ∈ lw_privs, lw_okq q := by
  show ∀ q ∈ lw_privs_1 ++ (lw_privs_2), lw_okq q
  exact List.forall_mem_append.mpr ⟨lw_r1, lw_r2⟩
end
section
def RX0 : String := "ShireLines$Act"
def TX0 : u_T := fun k => match k with
  | 0 => ("ShireLines$Act", "kind", "I", false)
  | 1 => ("ShireLines$Act", "year", "I", false)
  | 2 => ("ShireLines$Act", "first", "I", false)
  | 3 => ("ShireLines$Act", "second", "I", false)
  | 4 => ("ShireLines$Act", "cells", "J", false)
  | 5 => ("ShireLines$Act", "place", "I", false)
  | 6 => ("ShireLines$Act", "isVoid", "Z", false)
  | _ => ("ShireLines$Act", "passed", "J", false)
def tyX0 : Nat → FieldType := fun k => match k with
  | 0 => .int
  | 1 => .int
  | 2 => .int
  | 3 => .int
  | 4 => .long
  | 5 => .int
  | 6 => .boolean
  | _ => .long
theorem nmX0 : ∀ a, a < 8 → ∀ b, b < 8 → a ≠ b → (TX0 a).2.1 ≠ (TX0 b).2.1 := by decide +kernel
theorem tyX0_ok : ∀ k, k < 8 → parseFieldDescriptor (TX0 k).2.2.1 = some (tyX0 k) := by decide +kernel
abbrev cX0_init : ByteArray := prog_2_method_1_code
def yX0_init : MethodName := ⟨RX0, "<init>", "()V"⟩
abbrev cX0_canBeTurnedBack : ByteArray := prog_2_method_2_code
def yX0_canBeTurnedBack : MethodName := ⟨RX0, "canBeTurnedBack", "()Z"⟩
abbrev cX0_receiver : ByteArray := prog_2_method_3_code
def yX0_receiver : MethodName := ⟨RX0, "receiver", "()I"⟩
def RX1 : String := "ShireLines$Chart"
def TX1 : u_T := fun k => match k with
  | 0 => ("ShireLines$Chart", "claimed", "[J", true)
  | _ => ("ShireLines$Chart", "year", "I", false)
def tyX1 : Nat → FieldType := fun k => match k with
  | 0 => .array .long
  | _ => .int
theorem nmX1 : ∀ a, a < 2 → ∀ b, b < 2 → a ≠ b → (TX1 a).2.1 ≠ (TX1 b).2.1 := by decide +kernel
theorem tyX1_ok : ∀ k, k < 2 → parseFieldDescriptor (TX1 k).2.2.1 = some (tyX1 k) := by decide +kernel
abbrev cX1_init : ByteArray := prog_3_method_1_code
def yX1_init : MethodName := ⟨RX1, "<init>", "()V"⟩
abbrev cX1_setClaim : ByteArray := prog_3_method_2_code
def yX1_setClaim : MethodName := ⟨RX1, "setClaim", "(II)V"⟩
abbrev cX1_claimedCells : ByteArray := prog_3_method_3_code
def yX1_claimedCells : MethodName := ⟨RX1, "claimedCells", "()J"⟩
abbrev cX1_size : ByteArray := prog_3_method_4_code
def yX1_size : MethodName := ⟨RX1, "size", "()I"⟩
abbrev cX1_rightCells : ByteArray := prog_3_method_5_code
def yX1_rightCells : MethodName := ⟨RX1, "rightCells", "(LShireLines$Moment;)J"⟩
abbrev cX1_agreement : ByteArray := prog_3_method_6_code
def yX1_agreement : MethodName := ⟨RX1, "agreement", "(LShireLines$Moment;)I"⟩
abbrev cX1_firstWrong : ByteArray := prog_3_method_7_code
def yX1_firstWrong : MethodName := ⟨RX1, "firstWrong", "(LShireLines$Moment;)I"⟩
abbrev cX1_firstQuarrel : ByteArray := prog_3_method_8_code
def yX1_firstQuarrel : MethodName := ⟨RX1, "firstQuarrel", "(LShireLines$Chart;)I"⟩
def RX2 : String := "ShireLines$Chronicle"
def TX2 : u_T := fun k => match k with
  | 0 => ("ShireLines$Chronicle", "kinds", "[I", true)
  | 1 => ("ShireLines$Chronicle", "acts", "[LShireLines$Act;", true)
  | 2 => ("ShireLines$Chronicle", "order", "[I", true)
  | 3 => ("ShireLines$Chronicle", "moments", "[LShireLines$Moment;", true)
  | 4 => ("ShireLines$Chronicle", "units", "I", false)
  | _ => ("ShireLines$Chronicle", "told", "I", false)
def tyX2 : Nat → FieldType := fun k => match k with
  | 0 => .array .int
  | 1 => .array (.object "ShireLines$Act")
  | 2 => .array .int
  | 3 => .array (.object "ShireLines$Moment")
  | 4 => .int
  | _ => .int
theorem nmX2 : ∀ a, a < 6 → ∀ b, b < 6 → a ≠ b → (TX2 a).2.1 ≠ (TX2 b).2.1 := by decide +kernel
theorem tyX2_ok : ∀ k, k < 6 → parseFieldDescriptor (TX2 k).2.2.1 = some (tyX2 k) := by decide +kernel
abbrev cX2_init : ByteArray := prog_4_method_1_code
def yX2_init : MethodName := ⟨RX2, "<init>", "()V"⟩
abbrev cX2_hasUnit : ByteArray := prog_4_method_2_code
def yX2_hasUnit : MethodName := ⟨RX2, "hasUnit", "(I)Z"⟩
abbrev cX2_hasAllUnits : ByteArray := prog_4_method_3_code
def yX2_hasAllUnits : MethodName := ⟨RX2, "hasAllUnits", "()Z"⟩
abbrev cX2_addUnit : ByteArray := prog_4_method_4_code
def yX2_addUnit : MethodName := ⟨RX2, "addUnit", "(I)I"⟩
abbrev cX2_kindOf : ByteArray := prog_4_method_5_code
def yX2_kindOf : MethodName := ⟨RX2, "kindOf", "(I)I"⟩
abbrev cX2_isHundred : ByteArray := prog_4_method_6_code
def yX2_isHundred : MethodName := ⟨RX2, "isHundred", "(I)Z"⟩
abbrev cX2_hasAct : ByteArray := prog_4_method_7_code
def yX2_hasAct : MethodName := ⟨RX2, "hasAct", "(I)Z"⟩
abbrev cX2_hasAllActs : ByteArray := prog_4_method_8_code
def yX2_hasAllActs : MethodName := ⟨RX2, "hasAllActs", "()Z"⟩
abbrev cX2_tell : ByteArray := prog_4_method_9_code
def yX2_tell : MethodName := ⟨RX2, "tell", "(IIIIJ)I"⟩
abbrev cX2_dropLatest : ByteArray := prog_4_method_10_code
def yX2_dropLatest : MethodName := ⟨RX2, "dropLatest", "()V"⟩
abbrev cX2_redoFrom : ByteArray := prog_4_method_11_code
def yX2_redoFrom : MethodName := ⟨RX2, "redoFrom", "(I)V"⟩
abbrev cX2_perform : ByteArray := prog_4_method_12_code
def yX2_perform : MethodName := ⟨RX2, "perform", "(LShireLines$Act;LShireLines$Moment;)Z"⟩
abbrev cX2_performFound : ByteArray := prog_4_method_13_code
def yX2_performFound : MethodName := ⟨RX2, "performFound", "(LShireLines$Act;LShireLines$Moment;)Z"⟩
abbrev cX2_performMove : ByteArray := prog_4_method_14_code
def yX2_performMove : MethodName := ⟨RX2, "performMove", "(LShireLines$Act;LShireLines$Moment;)Z"⟩
abbrev cX2_performSwallow : ByteArray := prog_4_method_15_code
def yX2_performSwallow : MethodName := ⟨RX2, "performSwallow", "(LShireLines$Act;LShireLines$Moment;)Z"⟩
abbrev cX2_performBack : ByteArray := prog_4_method_16_code
def yX2_performBack : MethodName := ⟨RX2, "performBack", "(LShireLines$Act;LShireLines$Moment;)Z"⟩
abbrev cX2_performJoin : ByteArray := prog_4_method_17_code
def yX2_performJoin : MethodName := ⟨RX2, "performJoin", "(LShireLines$Act;LShireLines$Moment;)Z"⟩
abbrev cX2_doneUpTo : ByteArray := prog_4_method_18_code
def yX2_doneUpTo : MethodName := ⟨RX2, "doneUpTo", "(I)I"⟩
abbrev cX2_momentAt : ByteArray := prog_4_method_19_code
def yX2_momentAt : MethodName := ⟨RX2, "momentAt", "(I)LShireLines$Moment;"⟩
abbrev cX2_actAt : ByteArray := prog_4_method_20_code
def yX2_actAt : MethodName := ⟨RX2, "actAt", "(I)LShireLines$Act;"⟩
abbrev cX2_heldAt : ByteArray := prog_4_method_21_code
def yX2_heldAt : MethodName := ⟨RX2, "heldAt", "(II)J"⟩
abbrev cX2_makerOfBorder : ByteArray := prog_4_method_22_code
def yX2_makerOfBorder : MethodName := ⟨RX2, "makerOfBorder", "(III)I"⟩
abbrev cX2_firstChange : ByteArray := prog_4_method_23_code
def yX2_firstChange : MethodName := ⟨RX2, "firstChange", "(II)I"⟩
abbrev cX2_voidActs : ByteArray := prog_4_method_24_code
def yX2_voidActs : MethodName := ⟨RX2, "voidActs", "()I"⟩
def RX3 : String := "ShireLines$Field"
def TX3 : u_T := fun k => match k with
  | _ => ("", "", "", false)
def tyX3 : Nat → FieldType := fun k => match k with
  | _ => .int
theorem nmX3 : ∀ a, a < 0 → ∀ b, b < 0 → a ≠ b → (TX3 a).2.1 ≠ (TX3 b).2.1 := by decide +kernel
theorem tyX3_ok : ∀ k, k < 0 → parseFieldDescriptor (TX3 k).2.2.1 = some (tyX3 k) := by decide +kernel
abbrev cX3_isCell : ByteArray := prog_5_method_2_code
def yX3_isCell : MethodName := ⟨RX3, "isCell", "(I)Z"⟩
abbrev cX3_isSet : ByteArray := prog_5_method_3_code
def yX3_isSet : MethodName := ⟨RX3, "isSet", "(J)Z"⟩
abbrev cX3_has : ByteArray := prog_5_method_4_code
def yX3_has : MethodName := ⟨RX3, "has", "(JI)Z"⟩
abbrev cX3_areBeside : ByteArray := prog_5_method_5_code
def yX3_areBeside : MethodName := ⟨RX3, "areBeside", "(II)Z"⟩
abbrev cX3_right : ByteArray := prog_5_method_6_code
def yX3_right : MethodName := ⟨RX3, "right", "(J)J"⟩
abbrev cX3_left : ByteArray := prog_5_method_7_code
def yX3_left : MethodName := ⟨RX3, "left", "(J)J"⟩
abbrev cX3_down : ByteArray := prog_5_method_8_code
def yX3_down : MethodName := ⟨RX3, "down", "(J)J"⟩
abbrev cX3_up : ByteArray := prog_5_method_9_code
def yX3_up : MethodName := ⟨RX3, "up", "(J)J"⟩
abbrev cX3_pairsWithin : ByteArray := prog_5_method_10_code
def yX3_pairsWithin : MethodName := ⟨RX3, "pairsWithin", "(J)I"⟩
abbrev cX3_sides : ByteArray := prog_5_method_11_code
def yX3_sides : MethodName := ⟨RX3, "sides", "(J)I"⟩
abbrev cX3_firstOf : ByteArray := prog_5_method_12_code
def yX3_firstOf : MethodName := ⟨RX3, "firstOf", "(J)I"⟩
abbrev cX3_pieces : ByteArray := prog_5_method_13_code
def yX3_pieces : MethodName := ⟨RX3, "pieces", "(J)I"⟩
abbrev cX3_heapFrom : ByteArray := prog_5_method_14_code
def yX3_heapFrom : MethodName := ⟨RX3, "heapFrom", "(IJ)J"⟩
def RX4 : String := "ShireLines$Moment"
def TX4 : u_T := fun k => match k with
  | 0 => ("ShireLines$Moment", "held", "[J", true)
  | 1 => ("ShireLines$Moment", "hundreds", "[I", true)
  | _ => ("ShireLines$Moment", "present", "I", false)
def tyX4 : Nat → FieldType := fun k => match k with
  | 0 => .array .long
  | 1 => .array .int
  | _ => .int
theorem nmX4 : ∀ a, a < 3 → ∀ b, b < 3 → a ≠ b → (TX4 a).2.1 ≠ (TX4 b).2.1 := by decide +kernel
theorem tyX4_ok : ∀ k, k < 3 → parseFieldDescriptor (TX4 k).2.2.1 = some (tyX4 k) := by decide +kernel
abbrev cX4_init : ByteArray := prog_6_method_1_code
def yX4_init : MethodName := ⟨RX4, "<init>", "()V"⟩
abbrev cX4_becomeLike : ByteArray := prog_6_method_2_code
def yX4_becomeLike : MethodName := ⟨RX4, "becomeLike", "(LShireLines$Moment;)V"⟩
abbrev cX4_isThere : ByteArray := prog_6_method_3_code
def yX4_isThere : MethodName := ⟨RX4, "isThere", "(I)Z"⟩
abbrev cX4_arrive : ByteArray := prog_6_method_4_code
def yX4_arrive : MethodName := ⟨RX4, "arrive", "(I)V"⟩
abbrev cX4_leave : ByteArray := prog_6_method_5_code
def yX4_leave : MethodName := ⟨RX4, "leave", "(I)V"⟩
abbrev cX4_putUnder : ByteArray := prog_6_method_6_code
def yX4_putUnder : MethodName := ⟨RX4, "putUnder", "(II)V"⟩
abbrev cX4_hundredOver : ByteArray := prog_6_method_7_code
def yX4_hundredOver : MethodName := ⟨RX4, "hundredOver", "(I)I"⟩
abbrev cX4_give : ByteArray := prog_6_method_8_code
def yX4_give : MethodName := ⟨RX4, "give", "(JI)V"⟩
abbrev cX4_heldBy : ByteArray := prog_6_method_9_code
def yX4_heldBy : MethodName := ⟨RX4, "heldBy", "(I)J"⟩
abbrev cX4_heldUnder : ByteArray := prog_6_method_10_code
def yX4_heldUnder : MethodName := ⟨RX4, "heldUnder", "(I)J"⟩
abbrev cX4_holderOf : ByteArray := prog_6_method_11_code
def yX4_holderOf : MethodName := ⟨RX4, "holderOf", "(I)I"⟩
abbrev cX4_hasBorder : ByteArray := prog_6_method_12_code
def yX4_hasBorder : MethodName := ⟨RX4, "hasBorder", "(II)Z"⟩
abbrev cX4_borderPairs : ByteArray := prog_6_method_13_code
def yX4_borderPairs : MethodName := ⟨RX4, "borderPairs", "()I"⟩
abbrev cX4_isSlot : ByteArray := prog_6_method_14_code
def yX4_isSlot : MethodName := ⟨RX4, "isSlot", "(I)Z"⟩
def RX5 : String := "ShireLines$Sheet"
def TX5 : u_T := fun k => match k with
  | 0 => ("ShireLines$Sheet", "numbers", "[I", true)
  | 1 => ("ShireLines$Sheet", "bits", "I", false)
  | _ => ("ShireLines$Sheet", "size", "I", false)
def tyX5 : Nat → FieldType := fun k => match k with
  | 0 => .array .int
  | 1 => .int
  | _ => .int
theorem nmX5 : ∀ a, a < 3 → ∀ b, b < 3 → a ≠ b → (TX5 a).2.1 ≠ (TX5 b).2.1 := by decide +kernel
theorem tyX5_ok : ∀ k, k < 3 → parseFieldDescriptor (TX5 k).2.2.1 = some (tyX5 k) := by decide +kernel
abbrev cX5_init : ByteArray := prog_7_method_1_code
def yX5_init : MethodName := ⟨RX5, "<init>", "()V"⟩
abbrev cX5_renew : ByteArray := prog_7_method_2_code
def yX5_renew : MethodName := ⟨RX5, "renew", "(II)I"⟩
abbrev cX5_isMissing : ByteArray := prog_7_method_3_code
def yX5_isMissing : MethodName := ⟨RX5, "isMissing", "()Z"⟩
abbrev cX5_hasRun : ByteArray := prog_7_method_4_code
def yX5_hasRun : MethodName := ⟨RX5, "hasRun", "(II)Z"⟩
abbrev cX5_lowestBits : ByteArray := prog_7_method_5_code
def yX5_lowestBits : MethodName := ⟨RX5, "lowestBits", "(I)I"⟩
def RX6 : String := "ShireLines$Tally"
def TX6 : u_T := fun k => match k with
  | 0 => ("ShireLines$Tally", "units", "[I", true)
  | 1 => ("ShireLines$Tally", "years", "[I", true)
  | 2 => ("ShireLines$Tally", "heads", "[I", true)
  | _ => ("ShireLines$Tally", "size", "I", false)
def tyX6 : Nat → FieldType := fun k => match k with
  | 0 => .array .int
  | 1 => .array .int
  | 2 => .array .int
  | _ => .int
theorem nmX6 : ∀ a, a < 4 → ∀ b, b < 4 → a ≠ b → (TX6 a).2.1 ≠ (TX6 b).2.1 := by decide +kernel
theorem tyX6_ok : ∀ k, k < 4 → parseFieldDescriptor (TX6 k).2.2.1 = some (tyX6 k) := by decide +kernel
abbrev cX6_init : ByteArray := prog_8_method_1_code
def yX6_init : MethodName := ⟨RX6, "<init>", "()V"⟩
abbrev cX6_isFull : ByteArray := prog_8_method_2_code
def yX6_isFull : MethodName := ⟨RX6, "isFull", "()Z"⟩
abbrev cX6_add : ByteArray := prog_8_method_3_code
def yX6_add : MethodName := ⟨RX6, "add", "(III)I"⟩
abbrev cX6_standsFor : ByteArray := prog_8_method_4_code
def yX6_standsFor : MethodName := ⟨RX6, "standsFor", "(II)Z"⟩
abbrev cX6_sum : ByteArray := prog_8_method_5_code
def yX6_sum : MethodName := ⟨RX6, "sum", "(I)J"⟩
abbrev cX6_share : ByteArray := prog_8_method_6_code
def yX6_share : MethodName := ⟨RX6, "share", "(ILShireLines$Moment;JZ)J"⟩
abbrev cX6_greatestDivisor : ByteArray := prog_8_method_7_code
def yX6_greatestDivisor : MethodName := ⟨RX6, "greatestDivisor", "(JJ)J"⟩
def RX7 : String := "ShireLines"
def TX7 : u_T := fun k => match k with
  | 0 => ("ShireLines", "chronicle", "LShireLines$Chronicle;", true)
  | 1 => ("ShireLines", "tally", "LShireLines$Tally;", true)
  | 2 => ("ShireLines", "charts", "[LShireLines$Chart;", true)
  | 3 => ("ShireLines", "sheets", "[LShireLines$Sheet;", true)
  | _ => ("ShireLines", "findings", "I", false)
def tyX7 : Nat → FieldType := fun k => match k with
  | 0 => .object "ShireLines$Chronicle"
  | 1 => .object "ShireLines$Tally"
  | 2 => .array (.object "ShireLines$Chart")
  | 3 => .array (.object "ShireLines$Sheet")
  | _ => .int
theorem nmX7 : ∀ a, a < 5 → ∀ b, b < 5 → a ≠ b → (TX7 a).2.1 ≠ (TX7 b).2.1 := by decide +kernel
theorem tyX7_ok : ∀ k, k < 5 → parseFieldDescriptor (TX7 k).2.2.1 = some (tyX7 k) := by decide +kernel
abbrev cX7_init : ByteArray := prog_1_method_1_code
def yX7_init : MethodName := ⟨RX7, "<init>", "()V"⟩
abbrev cX7_unit : ByteArray := prog_1_method_2_code
def yX7_unit : MethodName := ⟨RX7, "unit", "(I)J"⟩
abbrev cX7_as : ByteArray := prog_1_method_3_code
def yX7_as : MethodName := ⟨RX7, "as", "(II)J"⟩
abbrev cX7_found : ByteArray := prog_1_method_4_code
def yX7_found : MethodName := ⟨RX7, "found", "(IIJ)J"⟩
abbrev cX7_move : ByteArray := prog_1_method_5_code
def yX7_move : MethodName := ⟨RX7, "move", "(IIIJ)J"⟩
abbrev cX7_swallow : ByteArray := prog_1_method_6_code
def yX7_swallow : MethodName := ⟨RX7, "swallow", "(III)J"⟩
abbrev cX7_back : ByteArray := prog_1_method_7_code
def yX7_back : MethodName := ⟨RX7, "back", "(II)J"⟩
abbrev cX7_join : ByteArray := prog_1_method_8_code
def yX7_join : MethodName := ⟨RX7, "join", "(III)J"⟩
abbrev cX7_act : ByteArray := prog_1_method_9_code
def yX7_act : MethodName := ⟨RX7, "act", "(II)J"⟩
abbrev cX7_untell : ByteArray := prog_1_method_10_code
def yX7_untell : MethodName := ⟨RX7, "untell", "()J"⟩
abbrev cX7_who : ByteArray := prog_1_method_11_code
def yX7_who : MethodName := ⟨RX7, "who", "(II)J"⟩
abbrev cX7_there : ByteArray := prog_1_method_12_code
def yX7_there : MethodName := ⟨RX7, "there", "(II)J"⟩
abbrev cX7_cells : ByteArray := prog_1_method_13_code
def yX7_cells : MethodName := ⟨RX7, "cells", "(II)J"⟩
abbrev cX7_shape : ByteArray := prog_1_method_14_code
def yX7_shape : MethodName := ⟨RX7, "shape", "(III)J"⟩
abbrev cX7_under : ByteArray := prog_1_method_15_code
def yX7_under : MethodName := ⟨RX7, "under", "(II)J"⟩
abbrev cX7_led : ByteArray := prog_1_method_16_code
def yX7_led : MethodName := ⟨RX7, "led", "(III)J"⟩
abbrev cX7_borders : ByteArray := prog_1_method_17_code
def yX7_borders : MethodName := ⟨RX7, "borders", "(I)J"⟩
abbrev cX7_changes : ByteArray := prog_1_method_18_code
def yX7_changes : MethodName := ⟨RX7, "changes", "(II)J"⟩
abbrev cX7_map : ByteArray := prog_1_method_19_code
def yX7_map : MethodName := ⟨RX7, "map", "(II)J"⟩
abbrev cX7_claim : ByteArray := prog_1_method_20_code
def yX7_claim : MethodName := ⟨RX7, "claim", "(III)J"⟩
abbrev cX7_read : ByteArray := prog_1_method_21_code
def yX7_read : MethodName := ⟨RX7, "read", "(II)J"⟩
abbrev cX7_best : ByteArray := prog_1_method_22_code
def yX7_best : MethodName := ⟨RX7, "best", "(III)J"⟩
abbrev cX7_quarrel : ByteArray := prog_1_method_23_code
def yX7_quarrel : MethodName := ⟨RX7, "quarrel", "(II)J"⟩
abbrev cX7_count : ByteArray := prog_1_method_24_code
def yX7_count : MethodName := ⟨RX7, "count", "(III)J"⟩
abbrev cX7_carried : ByteArray := prog_1_method_25_code
def yX7_carried : MethodName := ⟨RX7, "carried", "(IIIZ)J"⟩
abbrev cX7_people : ByteArray := prog_1_method_26_code
def yX7_people : MethodName := ⟨RX7, "people", "(I)J"⟩
abbrev cX7_sheet : ByteArray := prog_1_method_27_code
def yX7_sheet : MethodName := ⟨RX7, "sheet", "(III)J"⟩
abbrev cX7_put : ByteArray := prog_1_method_28_code
def yX7_put : MethodName := ⟨RX7, "put", "(III)J"⟩
abbrev cX7_copy : ByteArray := prog_1_method_29_code
def yX7_copy : MethodName := ⟨RX7, "copy", "(IIIII)J"⟩
abbrev cX7_lay : ByteArray := prog_1_method_30_code
def yX7_lay : MethodName := ⟨RX7, "lay", "(II)J"⟩
abbrev cX7_told : ByteArray := prog_1_method_31_code
def yX7_told : MethodName := ⟨RX7, "told", "(I)J"⟩
abbrev cX7_refuse : ByteArray := prog_1_method_32_code
def yX7_refuse : MethodName := ⟨RX7, "refuse", "(J)J"⟩
abbrev cX7_tellPassing : ByteArray := prog_1_method_33_code
def yX7_tellPassing : MethodName := ⟨RX7, "tellPassing", "(IIIIJ)J"⟩
abbrev cX7_tellAct : ByteArray := prog_1_method_34_code
def yX7_tellAct : MethodName := ⟨RX7, "tellAct", "(IIIIJ)J"⟩
abbrev cX7_bestYear : ByteArray := prog_1_method_35_code
def yX7_bestYear : MethodName := ⟨RX7, "bestYear", "(LShireLines$Chart;II)I"⟩
abbrev cX7_isClaim : ByteArray := prog_1_method_36_code
def yX7_isClaim : MethodName := ⟨RX7, "isClaim", "(I)Z"⟩
abbrev cX7_claimOf : ByteArray := prog_1_method_37_code
def yX7_claimOf : MethodName := ⟨RX7, "claimOf", "(I)I"⟩
abbrev cX7_isOrUnder : ByteArray := prog_1_method_38_code
def yX7_isOrUnder : MethodName := ⟨RX7, "isOrUnder", "(II)Z"⟩
abbrev cX7_isKind : ByteArray := prog_1_method_39_code
def yX7_isKind : MethodName := ⟨RX7, "isKind", "(I)Z"⟩
abbrev cX7_isYear : ByteArray := prog_1_method_40_code
def yX7_isYear : MethodName := ⟨RX7, "isYear", "(I)Z"⟩
abbrev cX7_isMap : ByteArray := prog_1_method_41_code
def yX7_isMap : MethodName := ⟨RX7, "isMap", "(I)Z"⟩
abbrev cX7_isSheet : ByteArray := prog_1_method_42_code
def yX7_isSheet : MethodName := ⟨RX7, "isSheet", "(I)Z"⟩
abbrev cX7_oneIf : ByteArray := prog_1_method_43_code
def yX7_oneIf : MethodName := ⟨RX7, "oneIf", "(Z)J"⟩
def RX8 : String := "ShireLinesModel"
def TX8 : u_T := fun k => match k with
  | 0 => ("ShireLinesModel", "units", "I", false)
  | 1 => ("ShireLinesModel", "acts", "I", false)
  | 2 => ("ShireLinesModel", "counts", "I", false)
  | 3 => ("ShireLinesModel", "findings", "J", false)
  | 4 => ("ShireLinesModel", "unitKind", "[I", true)
  | 5 => ("ShireLinesModel", "actKind", "[I", true)
  | 6 => ("ShireLinesModel", "actYear", "[I", true)
  | 7 => ("ShireLinesModel", "actOne", "[I", true)
  | 8 => ("ShireLinesModel", "actTwo", "[I", true)
  | 9 => ("ShireLinesModel", "actSet", "[J", true)
  | 10 => ("ShireLinesModel", "mapYear", "[I", true)
  | 11 => ("ShireLinesModel", "claims", "[I", true)
  | 12 => ("ShireLinesModel", "countUnit", "[I", true)
  | 13 => ("ShireLinesModel", "countYear", "[I", true)
  | 14 => ("ShireLinesModel", "countPeople", "[I", true)
  | 15 => ("ShireLinesModel", "sheetBits", "[I", true)
  | 16 => ("ShireLinesModel", "sheetSize", "[I", true)
  | 17 => ("ShireLinesModel", "sheets", "[I", true)
  | 18 => ("ShireLinesModel", "order", "[I", true)
  | 19 => ("ShireLinesModel", "placeOf", "[I", true)
  | 20 => ("ShireLinesModel", "holder", "[I", true)
  | 21 => ("ShireLinesModel", "above", "[I", true)
  | 22 => ("ShireLinesModel", "cameTo", "[I", true)
  | 23 => ("ShireLinesModel", "isThere", "[Z", true)
  | 24 => ("ShireLinesModel", "isVoid", "[Z", true)
  | _ => ("ShireLinesModel", "carriedOver", "[I", true)
def tyX8 : Nat → FieldType := fun k => match k with
  | 0 => .int
  | 1 => .int
  | 2 => .int
  | 3 => .long
  | 4 => .array .int
  | 5 => .array .int
  | 6 => .array .int
  | 7 => .array .int
  | 8 => .array .int
  | 9 => .array .long
  | 10 => .array .int
  | 11 => .array .int
  | 12 => .array .int
  | 13 => .array .int
  | 14 => .array .int
  | 15 => .array .int
  | 16 => .array .int
  | 17 => .array .int
  | 18 => .array .int
  | 19 => .array .int
  | 20 => .array .int
  | 21 => .array .int
  | 22 => .array .int
  | 23 => .array .boolean
  | 24 => .array .boolean
  | _ => .array .int
theorem nmX8 : ∀ a, a < 26 → ∀ b, b < 26 → a ≠ b → (TX8 a).2.1 ≠ (TX8 b).2.1 := by decide +kernel
theorem tyX8_ok : ∀ k, k < 26 → parseFieldDescriptor (TX8 k).2.2.1 = some (tyX8 k) := by decide +kernel
abbrev cX8_init : ByteArray := prog_10_method_1_code
def yX8_init : MethodName := ⟨RX8, "<init>", "()V"⟩
abbrev cX8_in : ByteArray := prog_10_method_3_code
def yX8_in : MethodName := ⟨RX8, "in", "(JJJ)Z"⟩
abbrev cX8_told0 : ByteArray := prog_10_method_4_code
def yX8_told0 : MethodName := ⟨RX8, "told0", "(J)J"⟩
abbrev cX8_isUnit : ByteArray := prog_10_method_5_code
def yX8_isUnit : MethodName := ⟨RX8, "isUnit", "(I)Z"⟩
abbrev cX8_isYear : ByteArray := prog_10_method_6_code
def yX8_isYear : MethodName := ⟨RX8, "isYear", "(I)Z"⟩
abbrev cX8_isCell : ByteArray := prog_10_method_7_code
def yX8_isCell : MethodName := ⟨RX8, "isCell", "(I)Z"⟩
abbrev cX8_isHundred : ByteArray := prog_10_method_8_code
def yX8_isHundred : MethodName := ⟨RX8, "isHundred", "(I)Z"⟩
abbrev cX8_unit : ByteArray := prog_10_method_9_code
def yX8_unit : MethodName := ⟨RX8, "unit", "(I)J"⟩
abbrev cX8_as : ByteArray := prog_10_method_10_code
def yX8_as : MethodName := ⟨RX8, "as", "(II)J"⟩
abbrev cX8_add : ByteArray := prog_10_method_11_code
def yX8_add : MethodName := ⟨RX8, "add", "(IIIIJ)J"⟩
abbrev cX8_found : ByteArray := prog_10_method_12_code
def yX8_found : MethodName := ⟨RX8, "found", "(IIJ)J"⟩
abbrev cX8_move : ByteArray := prog_10_method_13_code
def yX8_move : MethodName := ⟨RX8, "move", "(IIIJ)J"⟩
abbrev cX8_swallow : ByteArray := prog_10_method_14_code
def yX8_swallow : MethodName := ⟨RX8, "swallow", "(III)J"⟩
abbrev cX8_back : ByteArray := prog_10_method_15_code
def yX8_back : MethodName := ⟨RX8, "back", "(II)J"⟩
abbrev cX8_join : ByteArray := prog_10_method_16_code
def yX8_join : MethodName := ⟨RX8, "join", "(III)J"⟩
abbrev cX8_done : ByteArray := prog_10_method_17_code
def yX8_done : MethodName := ⟨RX8, "done", "()V"⟩
abbrev cX8_does : ByteArray := prog_10_method_18_code
def yX8_does : MethodName := ⟨RX8, "does", "(II)Z"⟩
abbrev cX8_gives : ByteArray := prog_10_method_19_code
def yX8_gives : MethodName := ⟨RX8, "gives", "(IIIJ)I"⟩
abbrev cX8_turnsBack : ByteArray := prog_10_method_20_code
def yX8_turnsBack : MethodName := ⟨RX8, "turnsBack", "(II)Z"⟩
abbrev cX8_until : ByteArray := prog_10_method_21_code
def yX8_until : MethodName := ⟨RX8, "until", "(I)I"⟩
abbrev cX8_held : ByteArray := prog_10_method_22_code
def yX8_held : MethodName := ⟨RX8, "held", "(II)J"⟩
abbrev cX8_act : ByteArray := prog_10_method_23_code
def yX8_act : MethodName := ⟨RX8, "act", "(II)J"⟩
abbrev cX8_untell : ByteArray := prog_10_method_24_code
def yX8_untell : MethodName := ⟨RX8, "untell", "()J"⟩
abbrev cX8_who : ByteArray := prog_10_method_25_code
def yX8_who : MethodName := ⟨RX8, "who", "(II)J"⟩
abbrev cX8_there : ByteArray := prog_10_method_26_code
def yX8_there : MethodName := ⟨RX8, "there", "(II)J"⟩
abbrev cX8_cells : ByteArray := prog_10_method_27_code
def yX8_cells : MethodName := ⟨RX8, "cells", "(II)J"⟩
abbrev cX8_cellsIn : ByteArray := prog_10_method_28_code
def yX8_cellsIn : MethodName := ⟨RX8, "cellsIn", "(J)I"⟩
abbrev cX8_beside : ByteArray := prog_10_method_29_code
def yX8_beside : MethodName := ⟨RX8, "beside", "(II)I"⟩
abbrev cX8_has : ByteArray := prog_10_method_30_code
def yX8_has : MethodName := ⟨RX8, "has", "(JI)Z"⟩
abbrev cX8_pieces : ByteArray := prog_10_method_31_code
def yX8_pieces : MethodName := ⟨RX8, "pieces", "(J)I"⟩
abbrev cX8_sides : ByteArray := prog_10_method_32_code
def yX8_sides : MethodName := ⟨RX8, "sides", "(J)I"⟩
abbrev cX8_shape : ByteArray := prog_10_method_33_code
def yX8_shape : MethodName := ⟨RX8, "shape", "(III)J"⟩
abbrev cX8_under : ByteArray := prog_10_method_34_code
def yX8_under : MethodName := ⟨RX8, "under", "(II)J"⟩
abbrev cX8_areUnlike : ByteArray := prog_10_method_35_code
def yX8_areUnlike : MethodName := ⟨RX8, "areUnlike", "(III)Z"⟩
abbrev cX8_areBeside : ByteArray := prog_10_method_36_code
def yX8_areBeside : MethodName := ⟨RX8, "areBeside", "(II)Z"⟩
abbrev cX8_led : ByteArray := prog_10_method_37_code
def yX8_led : MethodName := ⟨RX8, "led", "(III)J"⟩
abbrev cX8_borders : ByteArray := prog_10_method_38_code
def yX8_borders : MethodName := ⟨RX8, "borders", "(I)J"⟩
abbrev cX8_changes : ByteArray := prog_10_method_39_code
def yX8_changes : MethodName := ⟨RX8, "changes", "(II)J"⟩
abbrev cX8_isMap : ByteArray := prog_10_method_40_code
def yX8_isMap : MethodName := ⟨RX8, "isMap", "(I)Z"⟩
abbrev cX8_map : ByteArray := prog_10_method_41_code
def yX8_map : MethodName := ⟨RX8, "map", "(II)J"⟩
abbrev cX8_claim : ByteArray := prog_10_method_42_code
def yX8_claim : MethodName := ⟨RX8, "claim", "(III)J"⟩
abbrev cX8_agrees : ByteArray := prog_10_method_43_code
def yX8_agrees : MethodName := ⟨RX8, "agrees", "(II)I"⟩
abbrev cX8_claimsOf : ByteArray := prog_10_method_44_code
def yX8_claimsOf : MethodName := ⟨RX8, "claimsOf", "(I)I"⟩
abbrev cX8_read : ByteArray := prog_10_method_45_code
def yX8_read : MethodName := ⟨RX8, "read", "(II)J"⟩
abbrev cX8_best : ByteArray := prog_10_method_46_code
def yX8_best : MethodName := ⟨RX8, "best", "(III)J"⟩
abbrev cX8_quarrel : ByteArray := prog_10_method_47_code
def yX8_quarrel : MethodName := ⟨RX8, "quarrel", "(II)J"⟩
abbrev cX8_count : ByteArray := prog_10_method_48_code
def yX8_count : MethodName := ⟨RX8, "count", "(III)J"⟩
abbrev cX8_latest : ByteArray := prog_10_method_49_code
def yX8_latest : MethodName := ⟨RX8, "latest", "(II)I"⟩
abbrev cX8_common : ByteArray := prog_10_method_50_code
def yX8_common : MethodName := ⟨RX8, "common", "(JJ)J"⟩
abbrev cX8_carried : ByteArray := prog_10_method_51_code
def yX8_carried : MethodName := ⟨RX8, "carried", "(IIIZ)J"⟩
abbrev cX8_people : ByteArray := prog_10_method_52_code
def yX8_people : MethodName := ⟨RX8, "people", "(I)J"⟩
abbrev cX8_isSheet : ByteArray := prog_10_method_53_code
def yX8_isSheet : MethodName := ⟨RX8, "isSheet", "(I)Z"⟩
abbrev cX8_sheet : ByteArray := prog_10_method_54_code
def yX8_sheet : MethodName := ⟨RX8, "sheet", "(III)J"⟩
abbrev cX8_put : ByteArray := prog_10_method_55_code
def yX8_put : MethodName := ⟨RX8, "put", "(III)J"⟩
abbrev cX8_copy : ByteArray := prog_10_method_56_code
def yX8_copy : MethodName := ⟨RX8, "copy", "(IIIII)J"⟩
abbrev cX8_lay : ByteArray := prog_10_method_57_code
def yX8_lay : MethodName := ⟨RX8, "lay", "(II)J"⟩
abbrev cX8_told : ByteArray := prog_10_method_58_code
def yX8_told : MethodName := ⟨RX8, "told", "(I)J"⟩
def RJ13 : String := "java/lang/Long"
abbrev cJ13_bitCount_95d88 : ByteArray := prog_11_method_50_code
def yJ13_bitCount_95d88 : MethodName := ⟨RJ13, "bitCount", "(J)I"⟩
def RJ9 : String := "java/lang/Math"
abbrev cJ9_abs_0f7a4 : ByteArray := prog_12_method_59_code
def yJ9_abs_0f7a4 : MethodName := ⟨RJ9, "abs", "(I)I"⟩
def RJ10 : String := "java/lang/System"
def RJ7 : String := "java/util/Arrays"
abbrev cJ7_fill_53178 : ByteArray := prog_14_method_103_code
def yJ7_fill_53178 : MethodName := ⟨RJ7, "fill", "([II)V"⟩
def RL : String := "ShireLinesLaw"
abbrev cL_law : ByteArray := code
def yL_law : MethodName := ⟨RL, "law", "([I)Z"⟩
abbrev vwCl : List vw_C := [(RX0, TX0, 8), (RX1, TX1, 2), (RX2, TX2, 6), (RX4, TX4, 3), (RX5, TX5, 3), (RX6, TX6, 4), (RX7, TX7, 5), (RX8, TX8, 26)]
end
section
theorem dX0_init_0 : decode cX0_init 0 = .ok (.aload_n 0, 1) := by decide +kernel
theorem dX0_init_1 : decode cX0_init 1 = .ok (.invokespecial 3, 3) := by decide +kernel
theorem dX0_init_4 : decode cX0_init 4 = .ok (.return_, 1) := by decide +kernel
theorem dX0_canBeTurnedBack_0 : decode cX0_canBeTurnedBack 0 = .ok (.aload_n 0, 1) := by decide +kernel
theorem dX0_canBeTurnedBack_1 : decode cX0_canBeTurnedBack 1 = .ok (.getfield 9, 3) := by decide +kernel
theorem dX0_canBeTurnedBack_4 : decode cX0_canBeTurnedBack 4 = .ok (.ifCond .eq 19, 3) := by decide +kernel
theorem dX0_canBeTurnedBack_7 : decode cX0_canBeTurnedBack 7 = .ok (.aload_n 0, 1) := by decide +kernel
theorem dX0_canBeTurnedBack_8 : decode cX0_canBeTurnedBack 8 = .ok (.getfield 9, 3) := by decide +kernel
theorem dX0_canBeTurnedBack_11 : decode cX0_canBeTurnedBack 11 = .ok (.iconst 1, 1) := by decide +kernel
theorem dX0_canBeTurnedBack_12 : decode cX0_canBeTurnedBack 12 = .ok (.if_icmp .eq 11, 3) := by decide +kernel
theorem dX0_canBeTurnedBack_15 : decode cX0_canBeTurnedBack 15 = .ok (.aload_n 0, 1) := by decide +kernel
theorem dX0_canBeTurnedBack_16 : decode cX0_canBeTurnedBack 16 = .ok (.getfield 9, 3) := by decide +kernel
theorem dX0_canBeTurnedBack_19 : decode cX0_canBeTurnedBack 19 = .ok (.iconst 2, 1) := by decide +kernel
theorem dX0_canBeTurnedBack_20 : decode cX0_canBeTurnedBack 20 = .ok (.if_icmp .ne 7, 3) := by decide +kernel
theorem dX0_canBeTurnedBack_23 : decode cX0_canBeTurnedBack 23 = .ok (.iconst 1, 1) := by decide +kernel
theorem dX0_canBeTurnedBack_24 : decode cX0_canBeTurnedBack 24 = .ok (.goto 4, 3) := by decide +kernel
theorem dX0_canBeTurnedBack_27 : decode cX0_canBeTurnedBack 27 = .ok (.iconst 0, 1) := by decide +kernel
theorem dX0_canBeTurnedBack_28 : decode cX0_canBeTurnedBack 28 = .ok (.ireturn, 1) := by decide +kernel
theorem dX0_receiver_0 : decode cX0_receiver 0 = .ok (.aload_n 0, 1) := by decide +kernel
theorem dX0_receiver_1 : decode cX0_receiver 1 = .ok (.getfield 9, 3) := by decide +kernel
theorem dX0_receiver_4 : decode cX0_receiver 4 = .ok (.ifCond .ne 10, 3) := by decide +kernel
theorem dX0_receiver_7 : decode cX0_receiver 7 = .ok (.aload_n 0, 1) := by decide +kernel
theorem dX0_receiver_8 : decode cX0_receiver 8 = .ok (.getfield 15, 3) := by decide +kernel
theorem dX0_receiver_11 : decode cX0_receiver 11 = .ok (.goto 7, 3) := by decide +kernel
theorem dX0_receiver_14 : decode cX0_receiver 14 = .ok (.aload_n 0, 1) := by decide +kernel
theorem dX0_receiver_15 : decode cX0_receiver 15 = .ok (.getfield 18, 3) := by decide +kernel
theorem dX0_receiver_18 : decode cX0_receiver 18 = .ok (.ireturn, 1) := by decide +kernel
theorem dX1_init_0 : decode cX1_init 0 = .ok (.aload_n 0, 1) := by decide +kernel
theorem dX1_init_1 : decode cX1_init 1 = .ok (.invokespecial 3, 3) := by decide +kernel
theorem dX1_init_4 : decode cX1_init 4 = .ok (.aload_n 0, 1) := by decide +kernel
theorem dX1_init_5 : decode cX1_init 5 = .ok (.bipush 11, 2) := by decide +kernel
theorem dX1_init_7 : decode cX1_init 7 = .ok (.newarray .long, 2) := by decide +kernel
theorem dX1_init_9 : decode cX1_init 9 = .ok (.putfield 9, 3) := by decide +kernel
theorem dX1_init_12 : decode cX1_init 12 = .ok (.aload_n 0, 1) := by decide +kernel
theorem dX1_init_13 : decode cX1_init 13 = .ok (.sipush 1000, 3) := by decide +kernel
theorem dX1_init_16 : decode cX1_init 16 = .ok (.putfield 15, 3) := by decide +kernel
theorem dX1_init_19 : decode cX1_init 19 = .ok (.return_, 1) := by decide +kernel
theorem dX1_setClaim_0 : decode cX1_setClaim 0 = .ok (.lconst 1, 1) := by decide +kernel
theorem dX1_setClaim_1 : decode cX1_setClaim 1 = .ok (.iload_n 1, 1) := by decide +kernel
theorem dX1_setClaim_2 : decode cX1_setClaim 2 = .ok (.lshl, 1) := by decide +kernel
theorem dX1_setClaim_3 : decode cX1_setClaim 3 = .ok (.lstore_n 3, 1) := by decide +kernel
theorem dX1_setClaim_4 : decode cX1_setClaim 4 = .ok (.iconst 0, 1) := by decide +kernel
theorem dX1_setClaim_5 : decode cX1_setClaim 5 = .ok (.istore 5, 2) := by decide +kernel
theorem dX1_setClaim_7 : decode cX1_setClaim 7 = .ok (.iload 5, 2) := by decide +kernel
theorem dX1_setClaim_9 : decode cX1_setClaim 9 = .ok (.bipush 11, 2) := by decide +kernel
theorem dX1_setClaim_11 : decode cX1_setClaim 11 = .ok (.if_icmp .ge 24, 3) := by decide +kernel
theorem dX1_setClaim_14 : decode cX1_setClaim 14 = .ok (.aload_n 0, 1) := by decide +kernel
theorem dX1_setClaim_15 : decode cX1_setClaim 15 = .ok (.getfield 9, 3) := by decide +kernel
theorem dX1_setClaim_18 : decode cX1_setClaim 18 = .ok (.iload 5, 2) := by decide +kernel
theorem dX1_setClaim_20 : decode cX1_setClaim 20 = .ok (.dup2, 1) := by decide +kernel
theorem dX1_setClaim_21 : decode cX1_setClaim 21 = .ok (.laload, 1) := by decide +kernel
theorem dX1_setClaim_22 : decode cX1_setClaim 22 = .ok (.lload_n 3, 1) := by decide +kernel
theorem dX1_setClaim_23 : decode cX1_setClaim 23 = .ok (.ldc2_w 19, 3) := by decide +kernel
theorem dX1_setClaim_26 : decode cX1_setClaim 26 = .ok (.lxor, 1) := by decide +kernel
theorem dX1_setClaim_27 : decode cX1_setClaim 27 = .ok (.land, 1) := by decide +kernel
theorem dX1_setClaim_28 : decode cX1_setClaim 28 = .ok (.lastore, 1) := by decide +kernel
theorem dX1_setClaim_29 : decode cX1_setClaim 29 = .ok (.iinc 5 1, 3) := by decide +kernel
theorem dX1_setClaim_32 : decode cX1_setClaim 32 = .ok (.goto (-25), 3) := by decide +kernel
theorem dX1_setClaim_35 : decode cX1_setClaim 35 = .ok (.iload_n 2, 1) := by decide +kernel
theorem dX1_setClaim_36 : decode cX1_setClaim 36 = .ok (.ifCond .lt 19, 3) := by decide +kernel
theorem dX1_setClaim_39 : decode cX1_setClaim 39 = .ok (.iload_n 2, 1) := by decide +kernel
theorem dX1_setClaim_40 : decode cX1_setClaim 40 = .ok (.bipush 11, 2) := by decide +kernel
theorem dX1_setClaim_42 : decode cX1_setClaim 42 = .ok (.if_icmp .ge 13, 3) := by decide +kernel
theorem dX1_setClaim_45 : decode cX1_setClaim 45 = .ok (.aload_n 0, 1) := by decide +kernel
theorem dX1_setClaim_46 : decode cX1_setClaim 46 = .ok (.getfield 9, 3) := by decide +kernel
theorem dX1_setClaim_49 : decode cX1_setClaim 49 = .ok (.iload_n 2, 1) := by decide +kernel
theorem dX1_setClaim_50 : decode cX1_setClaim 50 = .ok (.dup2, 1) := by decide +kernel
theorem dX1_setClaim_51 : decode cX1_setClaim 51 = .ok (.laload, 1) := by decide +kernel
theorem dX1_setClaim_52 : decode cX1_setClaim 52 = .ok (.lload_n 3, 1) := by decide +kernel
theorem dX1_setClaim_53 : decode cX1_setClaim 53 = .ok (.lor, 1) := by decide +kernel
theorem dX1_setClaim_54 : decode cX1_setClaim 54 = .ok (.lastore, 1) := by decide +kernel
theorem dX1_setClaim_55 : decode cX1_setClaim 55 = .ok (.return_, 1) := by decide +kernel
theorem dX1_claimedCells_0 : decode cX1_claimedCells 0 = .ok (.lconst 0, 1) := by decide +kernel
theorem dX1_claimedCells_1 : decode cX1_claimedCells 1 = .ok (.lstore_n 1, 1) := by decide +kernel
theorem dX1_claimedCells_2 : decode cX1_claimedCells 2 = .ok (.iconst 0, 1) := by decide +kernel
theorem dX1_claimedCells_3 : decode cX1_claimedCells 3 = .ok (.istore_n 3, 1) := by decide +kernel
theorem dX1_claimedCells_4 : decode cX1_claimedCells 4 = .ok (.iload_n 3, 1) := by decide +kernel
theorem dX1_claimedCells_5 : decode cX1_claimedCells 5 = .ok (.bipush 11, 2) := by decide +kernel
theorem dX1_claimedCells_7 : decode cX1_claimedCells 7 = .ok (.if_icmp .ge 18, 3) := by decide +kernel
theorem dX1_claimedCells_10 : decode cX1_claimedCells 10 = .ok (.lload_n 1, 1) := by decide +kernel
theorem dX1_claimedCells_11 : decode cX1_claimedCells 11 = .ok (.aload_n 0, 1) := by decide +kernel
theorem dX1_claimedCells_12 : decode cX1_claimedCells 12 = .ok (.getfield 9, 3) := by decide +kernel
theorem dX1_claimedCells_15 : decode cX1_claimedCells 15 = .ok (.iload_n 3, 1) := by decide +kernel
theorem dX1_claimedCells_16 : decode cX1_claimedCells 16 = .ok (.laload, 1) := by decide +kernel
theorem dX1_claimedCells_17 : decode cX1_claimedCells 17 = .ok (.lor, 1) := by decide +kernel
theorem dX1_claimedCells_18 : decode cX1_claimedCells 18 = .ok (.lstore_n 1, 1) := by decide +kernel
theorem dX1_claimedCells_19 : decode cX1_claimedCells 19 = .ok (.iinc 3 1, 3) := by decide +kernel
theorem dX1_claimedCells_22 : decode cX1_claimedCells 22 = .ok (.goto (-18), 3) := by decide +kernel
theorem dX1_claimedCells_25 : decode cX1_claimedCells 25 = .ok (.lload_n 1, 1) := by decide +kernel
theorem dX1_claimedCells_26 : decode cX1_claimedCells 26 = .ok (.lreturn, 1) := by decide +kernel
theorem dX1_size_0 : decode cX1_size 0 = .ok (.aload_n 0, 1) := by decide +kernel
theorem dX1_size_1 : decode cX1_size 1 = .ok (.invokevirtual 21, 3) := by decide +kernel
theorem dX1_size_4 : decode cX1_size 4 = .ok (.invokestatic 25, 3) := by decide +kernel
theorem dX1_size_7 : decode cX1_size 7 = .ok (.ireturn, 1) := by decide +kernel
theorem dX1_rightCells_0 : decode cX1_rightCells 0 = .ok (.lconst 0, 1) := by decide +kernel
theorem dX1_rightCells_1 : decode cX1_rightCells 1 = .ok (.lstore_n 2, 1) := by decide +kernel
theorem dX1_rightCells_2 : decode cX1_rightCells 2 = .ok (.iconst 0, 1) := by decide +kernel
theorem dX1_rightCells_3 : decode cX1_rightCells 3 = .ok (.istore 4, 2) := by decide +kernel
theorem dX1_rightCells_5 : decode cX1_rightCells 5 = .ok (.iload 4, 2) := by decide +kernel
theorem dX1_rightCells_7 : decode cX1_rightCells 7 = .ok (.bipush 11, 2) := by decide +kernel
theorem dX1_rightCells_9 : decode cX1_rightCells 9 = .ok (.if_icmp .ge 26, 3) := by decide +kernel
theorem dX1_rightCells_12 : decode cX1_rightCells 12 = .ok (.lload_n 2, 1) := by decide +kernel
theorem dX1_rightCells_13 : decode cX1_rightCells 13 = .ok (.aload_n 0, 1) := by decide +kernel
theorem dX1_rightCells_14 : decode cX1_rightCells 14 = .ok (.getfield 9, 3) := by decide +kernel
theorem dX1_rightCells_17 : decode cX1_rightCells 17 = .ok (.iload 4, 2) := by decide +kernel
theorem dX1_rightCells_19 : decode cX1_rightCells 19 = .ok (.laload, 1) := by decide +kernel
theorem dX1_rightCells_20 : decode cX1_rightCells 20 = .ok (.aload_n 1, 1) := by decide +kernel
theorem dX1_rightCells_21 : decode cX1_rightCells 21 = .ok (.iload 4, 2) := by decide +kernel
theorem dX1_rightCells_23 : decode cX1_rightCells 23 = .ok (.invokevirtual 31, 3) := by decide +kernel
theorem dX1_rightCells_26 : decode cX1_rightCells 26 = .ok (.land, 1) := by decide +kernel
theorem dX1_rightCells_27 : decode cX1_rightCells 27 = .ok (.lor, 1) := by decide +kernel
theorem dX1_rightCells_28 : decode cX1_rightCells 28 = .ok (.lstore_n 2, 1) := by decide +kernel
theorem dX1_rightCells_29 : decode cX1_rightCells 29 = .ok (.iinc 4 1, 3) := by decide +kernel
theorem dX1_rightCells_32 : decode cX1_rightCells 32 = .ok (.goto (-27), 3) := by decide +kernel
theorem dX1_rightCells_35 : decode cX1_rightCells 35 = .ok (.lload_n 2, 1) := by decide +kernel
theorem dX1_rightCells_36 : decode cX1_rightCells 36 = .ok (.lreturn, 1) := by decide +kernel
theorem dX1_agreement_0 : decode cX1_agreement 0 = .ok (.aload_n 0, 1) := by decide +kernel
theorem dX1_agreement_1 : decode cX1_agreement 1 = .ok (.aload_n 1, 1) := by decide +kernel
theorem dX1_agreement_2 : decode cX1_agreement 2 = .ok (.invokevirtual 37, 3) := by decide +kernel
theorem dX1_agreement_5 : decode cX1_agreement 5 = .ok (.invokestatic 25, 3) := by decide +kernel
theorem dX1_agreement_8 : decode cX1_agreement 8 = .ok (.ireturn, 1) := by decide +kernel
theorem dX1_firstWrong_0 : decode cX1_firstWrong 0 = .ok (.aload_n 0, 1) := by decide +kernel
theorem dX1_firstWrong_1 : decode cX1_firstWrong 1 = .ok (.invokevirtual 21, 3) := by decide +kernel
theorem dX1_firstWrong_4 : decode cX1_firstWrong 4 = .ok (.aload_n 0, 1) := by decide +kernel
theorem dX1_firstWrong_5 : decode cX1_firstWrong 5 = .ok (.aload_n 1, 1) := by decide +kernel
theorem dX1_firstWrong_6 : decode cX1_firstWrong 6 = .ok (.invokevirtual 37, 3) := by decide +kernel
theorem dX1_firstWrong_9 : decode cX1_firstWrong 9 = .ok (.ldc2_w 19, 3) := by decide +kernel
theorem dX1_firstWrong_12 : decode cX1_firstWrong 12 = .ok (.lxor, 1) := by decide +kernel
theorem dX1_firstWrong_13 : decode cX1_firstWrong 13 = .ok (.land, 1) := by decide +kernel
theorem dX1_firstWrong_14 : decode cX1_firstWrong 14 = .ok (.invokestatic 41, 3) := by decide +kernel
theorem dX1_firstWrong_17 : decode cX1_firstWrong 17 = .ok (.ireturn, 1) := by decide +kernel
theorem dX1_firstQuarrel_0 : decode cX1_firstQuarrel 0 = .ok (.lconst 0, 1) := by decide +kernel
theorem dX1_firstQuarrel_1 : decode cX1_firstQuarrel 1 = .ok (.lstore_n 2, 1) := by decide +kernel
theorem dX1_firstQuarrel_2 : decode cX1_firstQuarrel 2 = .ok (.iconst 0, 1) := by decide +kernel
theorem dX1_firstQuarrel_3 : decode cX1_firstQuarrel 3 = .ok (.istore 4, 2) := by decide +kernel
theorem dX1_firstQuarrel_5 : decode cX1_firstQuarrel 5 = .ok (.iload 4, 2) := by decide +kernel
theorem dX1_firstQuarrel_7 : decode cX1_firstQuarrel 7 = .ok (.bipush 11, 2) := by decide +kernel
theorem dX1_firstQuarrel_9 : decode cX1_firstQuarrel 9 = .ok (.if_icmp .ge 27, 3) := by decide +kernel
theorem dX1_firstQuarrel_12 : decode cX1_firstQuarrel 12 = .ok (.lload_n 2, 1) := by decide +kernel
theorem dX1_firstQuarrel_13 : decode cX1_firstQuarrel 13 = .ok (.aload_n 0, 1) := by decide +kernel
theorem dX1_firstQuarrel_14 : decode cX1_firstQuarrel 14 = .ok (.getfield 9, 3) := by decide +kernel
theorem dX1_firstQuarrel_17 : decode cX1_firstQuarrel 17 = .ok (.iload 4, 2) := by decide +kernel
theorem dX1_firstQuarrel_19 : decode cX1_firstQuarrel 19 = .ok (.laload, 1) := by decide +kernel
theorem dX1_firstQuarrel_20 : decode cX1_firstQuarrel 20 = .ok (.aload_n 1, 1) := by decide +kernel
theorem dX1_firstQuarrel_21 : decode cX1_firstQuarrel 21 = .ok (.getfield 9, 3) := by decide +kernel
theorem dX1_firstQuarrel_24 : decode cX1_firstQuarrel 24 = .ok (.iload 4, 2) := by decide +kernel
theorem dX1_firstQuarrel_26 : decode cX1_firstQuarrel 26 = .ok (.laload, 1) := by decide +kernel
theorem dX1_firstQuarrel_27 : decode cX1_firstQuarrel 27 = .ok (.land, 1) := by decide +kernel
theorem dX1_firstQuarrel_28 : decode cX1_firstQuarrel 28 = .ok (.lor, 1) := by decide +kernel
theorem dX1_firstQuarrel_29 : decode cX1_firstQuarrel 29 = .ok (.lstore_n 2, 1) := by decide +kernel
theorem dX1_firstQuarrel_30 : decode cX1_firstQuarrel 30 = .ok (.iinc 4 1, 3) := by decide +kernel
theorem dX1_firstQuarrel_33 : decode cX1_firstQuarrel 33 = .ok (.goto (-28), 3) := by decide +kernel
theorem dX1_firstQuarrel_36 : decode cX1_firstQuarrel 36 = .ok (.aload_n 0, 1) := by decide +kernel
theorem dX1_firstQuarrel_37 : decode cX1_firstQuarrel 37 = .ok (.invokevirtual 21, 3) := by decide +kernel
theorem dX1_firstQuarrel_40 : decode cX1_firstQuarrel 40 = .ok (.aload_n 1, 1) := by decide +kernel
theorem dX1_firstQuarrel_41 : decode cX1_firstQuarrel 41 = .ok (.invokevirtual 21, 3) := by decide +kernel
theorem dX1_firstQuarrel_44 : decode cX1_firstQuarrel 44 = .ok (.land, 1) := by decide +kernel
theorem dX1_firstQuarrel_45 : decode cX1_firstQuarrel 45 = .ok (.lload_n 2, 1) := by decide +kernel
theorem dX1_firstQuarrel_46 : decode cX1_firstQuarrel 46 = .ok (.ldc2_w 19, 3) := by decide +kernel
theorem dX1_firstQuarrel_49 : decode cX1_firstQuarrel 49 = .ok (.lxor, 1) := by decide +kernel
theorem dX1_firstQuarrel_50 : decode cX1_firstQuarrel 50 = .ok (.land, 1) := by decide +kernel
theorem dX1_firstQuarrel_51 : decode cX1_firstQuarrel 51 = .ok (.invokestatic 41, 3) := by decide +kernel
theorem dX1_firstQuarrel_54 : decode cX1_firstQuarrel 54 = .ok (.ireturn, 1) := by decide +kernel
theorem dX2_init_0 : decode cX2_init 0 = .ok (.aload_n 0, 1) := by decide +kernel
theorem dX2_init_1 : decode cX2_init 1 = .ok (.invokespecial 3, 3) := by decide +kernel
theorem dX2_init_4 : decode cX2_init 4 = .ok (.aload_n 0, 1) := by decide +kernel
theorem dX2_init_5 : decode cX2_init 5 = .ok (.bipush 10, 2) := by decide +kernel
theorem dX2_init_7 : decode cX2_init 7 = .ok (.newarray .int, 2) := by decide +kernel
theorem dX2_init_9 : decode cX2_init 9 = .ok (.putfield 9, 3) := by decide +kernel
theorem dX2_init_12 : decode cX2_init 12 = .ok (.aload_n 0, 1) := by decide +kernel
theorem dX2_init_13 : decode cX2_init 13 = .ok (.bipush 30, 2) := by decide +kernel
theorem dX2_init_15 : decode cX2_init 15 = .ok (.anewarray 15, 3) := by decide +kernel
theorem dX2_init_18 : decode cX2_init 18 = .ok (.putfield 17, 3) := by decide +kernel
theorem dX2_init_21 : decode cX2_init 21 = .ok (.aload_n 0, 1) := by decide +kernel
theorem dX2_init_22 : decode cX2_init 22 = .ok (.bipush 30, 2) := by decide +kernel
theorem dX2_init_24 : decode cX2_init 24 = .ok (.newarray .int, 2) := by decide +kernel
theorem dX2_init_26 : decode cX2_init 26 = .ok (.putfield 21, 3) := by decide +kernel
theorem dX2_init_29 : decode cX2_init 29 = .ok (.aload_n 0, 1) := by decide +kernel
theorem dX2_init_30 : decode cX2_init 30 = .ok (.bipush 31, 2) := by decide +kernel
theorem dX2_init_32 : decode cX2_init 32 = .ok (.anewarray 24, 3) := by decide +kernel
theorem dX2_init_35 : decode cX2_init 35 = .ok (.putfield 26, 3) := by decide +kernel
theorem dX2_init_38 : decode cX2_init 38 = .ok (.iconst 0, 1) := by decide +kernel
theorem dX2_init_39 : decode cX2_init 39 = .ok (.istore_n 1, 1) := by decide +kernel
theorem dX2_init_40 : decode cX2_init 40 = .ok (.iload_n 1, 1) := by decide +kernel
theorem dX2_init_41 : decode cX2_init 41 = .ok (.bipush 30, 2) := by decide +kernel
theorem dX2_init_43 : decode cX2_init 43 = .ok (.if_icmp .ge 22, 3) := by decide +kernel
theorem dX2_init_46 : decode cX2_init 46 = .ok (.aload_n 0, 1) := by decide +kernel
theorem dX2_init_47 : decode cX2_init 47 = .ok (.getfield 17, 3) := by decide +kernel
theorem dX2_init_50 : decode cX2_init 50 = .ok (.iload_n 1, 1) := by decide +kernel
theorem dX2_init_51 : decode cX2_init 51 = .ok (.new 15, 3) := by decide +kernel
theorem dX2_init_54 : decode cX2_init 54 = .ok (.dup, 1) := by decide +kernel
theorem dX2_init_55 : decode cX2_init 55 = .ok (.invokespecial 30, 3) := by decide +kernel
theorem dX2_init_58 : decode cX2_init 58 = .ok (.aastore, 1) := by decide +kernel
theorem dX2_init_59 : decode cX2_init 59 = .ok (.iinc 1 1, 3) := by decide +kernel
theorem dX2_init_62 : decode cX2_init 62 = .ok (.goto (-22), 3) := by decide +kernel
theorem dX2_init_65 : decode cX2_init 65 = .ok (.iconst 0, 1) := by decide +kernel
theorem dX2_init_66 : decode cX2_init 66 = .ok (.istore_n 1, 1) := by decide +kernel
theorem dX2_init_67 : decode cX2_init 67 = .ok (.iload_n 1, 1) := by decide +kernel
theorem dX2_init_68 : decode cX2_init 68 = .ok (.bipush 30, 2) := by decide +kernel
theorem dX2_init_70 : decode cX2_init 70 = .ok (.if_icmp .gt 22, 3) := by decide +kernel
theorem dX2_init_73 : decode cX2_init 73 = .ok (.aload_n 0, 1) := by decide +kernel
theorem dX2_init_74 : decode cX2_init 74 = .ok (.getfield 26, 3) := by decide +kernel
theorem dX2_init_77 : decode cX2_init 77 = .ok (.iload_n 1, 1) := by decide +kernel
theorem dX2_init_78 : decode cX2_init 78 = .ok (.new 24, 3) := by decide +kernel
theorem dX2_init_81 : decode cX2_init 81 = .ok (.dup, 1) := by decide +kernel
theorem dX2_init_82 : decode cX2_init 82 = .ok (.invokespecial 31, 3) := by decide +kernel
theorem dX2_init_85 : decode cX2_init 85 = .ok (.aastore, 1) := by decide +kernel
theorem dX2_init_86 : decode cX2_init 86 = .ok (.iinc 1 1, 3) := by decide +kernel
theorem dX2_init_89 : decode cX2_init 89 = .ok (.goto (-22), 3) := by decide +kernel
theorem dX2_init_92 : decode cX2_init 92 = .ok (.return_, 1) := by decide +kernel
theorem dX2_hasUnit_0 : decode cX2_hasUnit 0 = .ok (.iload_n 1, 1) := by decide +kernel
theorem dX2_hasUnit_1 : decode cX2_hasUnit 1 = .ok (.ifCond .lt 15, 3) := by decide +kernel
theorem dX2_hasUnit_4 : decode cX2_hasUnit 4 = .ok (.iload_n 1, 1) := by decide +kernel
theorem dX2_hasUnit_5 : decode cX2_hasUnit 5 = .ok (.aload_n 0, 1) := by decide +kernel
theorem dX2_hasUnit_6 : decode cX2_hasUnit 6 = .ok (.getfield 32, 3) := by decide +kernel
theorem dX2_hasUnit_9 : decode cX2_hasUnit 9 = .ok (.if_icmp .ge 7, 3) := by decide +kernel
theorem dX2_hasUnit_12 : decode cX2_hasUnit 12 = .ok (.iconst 1, 1) := by decide +kernel
theorem dX2_hasUnit_13 : decode cX2_hasUnit 13 = .ok (.goto 4, 3) := by decide +kernel
theorem dX2_hasUnit_16 : decode cX2_hasUnit 16 = .ok (.iconst 0, 1) := by decide +kernel
theorem dX2_hasUnit_17 : decode cX2_hasUnit 17 = .ok (.ireturn, 1) := by decide +kernel
theorem dX2_hasAllUnits_0 : decode cX2_hasAllUnits 0 = .ok (.aload_n 0, 1) := by decide +kernel
theorem dX2_hasAllUnits_1 : decode cX2_hasAllUnits 1 = .ok (.getfield 32, 3) := by decide +kernel
theorem dX2_hasAllUnits_4 : decode cX2_hasAllUnits 4 = .ok (.bipush 10, 2) := by decide +kernel
theorem dX2_hasAllUnits_6 : decode cX2_hasAllUnits 6 = .ok (.if_icmp .lt 7, 3) := by decide +kernel
theorem dX2_hasAllUnits_9 : decode cX2_hasAllUnits 9 = .ok (.iconst 1, 1) := by decide +kernel
theorem dX2_hasAllUnits_10 : decode cX2_hasAllUnits 10 = .ok (.goto 4, 3) := by decide +kernel
theorem dX2_hasAllUnits_13 : decode cX2_hasAllUnits 13 = .ok (.iconst 0, 1) := by decide +kernel
theorem dX2_hasAllUnits_14 : decode cX2_hasAllUnits 14 = .ok (.ireturn, 1) := by decide +kernel
theorem dX2_addUnit_0 : decode cX2_addUnit 0 = .ok (.aload_n 0, 1) := by decide +kernel
theorem dX2_addUnit_1 : decode cX2_addUnit 1 = .ok (.invokevirtual 36, 3) := by decide +kernel
theorem dX2_addUnit_4 : decode cX2_addUnit 4 = .ok (.ifCond .ne 23, 3) := by decide +kernel
theorem dX2_addUnit_7 : decode cX2_addUnit 7 = .ok (.aload_n 0, 1) := by decide +kernel
theorem dX2_addUnit_8 : decode cX2_addUnit 8 = .ok (.getfield 9, 3) := by decide +kernel
theorem dX2_addUnit_11 : decode cX2_addUnit 11 = .ok (.aload_n 0, 1) := by decide +kernel
theorem dX2_addUnit_12 : decode cX2_addUnit 12 = .ok (.getfield 32, 3) := by decide +kernel
theorem dX2_addUnit_15 : decode cX2_addUnit 15 = .ok (.iload_n 1, 1) := by decide +kernel
theorem dX2_addUnit_16 : decode cX2_addUnit 16 = .ok (.iastore, 1) := by decide +kernel
theorem dX2_addUnit_17 : decode cX2_addUnit 17 = .ok (.aload_n 0, 1) := by decide +kernel
theorem dX2_addUnit_18 : decode cX2_addUnit 18 = .ok (.dup, 1) := by decide +kernel
theorem dX2_addUnit_19 : decode cX2_addUnit 19 = .ok (.getfield 32, 3) := by decide +kernel
theorem dX2_addUnit_22 : decode cX2_addUnit 22 = .ok (.iconst 1, 1) := by decide +kernel
theorem dX2_addUnit_23 : decode cX2_addUnit 23 = .ok (.iadd, 1) := by decide +kernel
theorem dX2_addUnit_24 : decode cX2_addUnit 24 = .ok (.putfield 32, 3) := by decide +kernel
theorem dX2_addUnit_27 : decode cX2_addUnit 27 = .ok (.aload_n 0, 1) := by decide +kernel
theorem dX2_addUnit_28 : decode cX2_addUnit 28 = .ok (.getfield 32, 3) := by decide +kernel
theorem dX2_addUnit_31 : decode cX2_addUnit 31 = .ok (.iconst 1, 1) := by decide +kernel
theorem dX2_addUnit_32 : decode cX2_addUnit 32 = .ok (.isub, 1) := by decide +kernel
theorem dX2_addUnit_33 : decode cX2_addUnit 33 = .ok (.ireturn, 1) := by decide +kernel
theorem dX2_kindOf_0 : decode cX2_kindOf 0 = .ok (.aload_n 0, 1) := by decide +kernel
theorem dX2_kindOf_1 : decode cX2_kindOf 1 = .ok (.iload_n 1, 1) := by decide +kernel
theorem dX2_kindOf_2 : decode cX2_kindOf 2 = .ok (.invokevirtual 40, 3) := by decide +kernel
theorem dX2_kindOf_5 : decode cX2_kindOf 5 = .ok (.ifCond .eq 12, 3) := by decide +kernel
theorem dX2_kindOf_8 : decode cX2_kindOf 8 = .ok (.aload_n 0, 1) := by decide +kernel
theorem dX2_kindOf_9 : decode cX2_kindOf 9 = .ok (.getfield 9, 3) := by decide +kernel
theorem dX2_kindOf_12 : decode cX2_kindOf 12 = .ok (.iload_n 1, 1) := by decide +kernel
theorem dX2_kindOf_13 : decode cX2_kindOf 13 = .ok (.iaload, 1) := by decide +kernel
theorem dX2_kindOf_14 : decode cX2_kindOf 14 = .ok (.goto 4, 3) := by decide +kernel
theorem dX2_kindOf_17 : decode cX2_kindOf 17 = .ok (.iconst (-1), 1) := by decide +kernel
theorem dX2_kindOf_18 : decode cX2_kindOf 18 = .ok (.ireturn, 1) := by decide +kernel
theorem dX2_isHundred_0 : decode cX2_isHundred 0 = .ok (.aload_n 0, 1) := by decide +kernel
theorem dX2_isHundred_1 : decode cX2_isHundred 1 = .ok (.iload_n 1, 1) := by decide +kernel
theorem dX2_isHundred_2 : decode cX2_isHundred 2 = .ok (.invokevirtual 44, 3) := by decide +kernel
theorem dX2_isHundred_5 : decode cX2_isHundred 5 = .ok (.iconst 3, 1) := by decide +kernel
theorem dX2_isHundred_6 : decode cX2_isHundred 6 = .ok (.if_icmp .ne 7, 3) := by decide +kernel
theorem dX2_isHundred_9 : decode cX2_isHundred 9 = .ok (.iconst 1, 1) := by decide +kernel
theorem dX2_isHundred_10 : decode cX2_isHundred 10 = .ok (.goto 4, 3) := by decide +kernel
theorem dX2_isHundred_13 : decode cX2_isHundred 13 = .ok (.iconst 0, 1) := by decide +kernel
theorem dX2_isHundred_14 : decode cX2_isHundred 14 = .ok (.ireturn, 1) := by decide +kernel
theorem dX2_hasAct_0 : decode cX2_hasAct 0 = .ok (.iload_n 1, 1) := by decide +kernel
theorem dX2_hasAct_1 : decode cX2_hasAct 1 = .ok (.ifCond .lt 15, 3) := by decide +kernel
theorem dX2_hasAct_4 : decode cX2_hasAct 4 = .ok (.iload_n 1, 1) := by decide +kernel
theorem dX2_hasAct_5 : decode cX2_hasAct 5 = .ok (.aload_n 0, 1) := by decide +kernel
theorem dX2_hasAct_6 : decode cX2_hasAct 6 = .ok (.getfield 48, 3) := by decide +kernel
theorem dX2_hasAct_9 : decode cX2_hasAct 9 = .ok (.if_icmp .ge 7, 3) := by decide +kernel
theorem dX2_hasAct_12 : decode cX2_hasAct 12 = .ok (.iconst 1, 1) := by decide +kernel
theorem dX2_hasAct_13 : decode cX2_hasAct 13 = .ok (.goto 4, 3) := by decide +kernel
theorem dX2_hasAct_16 : decode cX2_hasAct 16 = .ok (.iconst 0, 1) := by decide +kernel
theorem dX2_hasAct_17 : decode cX2_hasAct 17 = .ok (.ireturn, 1) := by decide +kernel
theorem dX2_hasAllActs_0 : decode cX2_hasAllActs 0 = .ok (.aload_n 0, 1) := by decide +kernel
theorem dX2_hasAllActs_1 : decode cX2_hasAllActs 1 = .ok (.getfield 48, 3) := by decide +kernel
theorem dX2_hasAllActs_4 : decode cX2_hasAllActs 4 = .ok (.bipush 30, 2) := by decide +kernel
theorem dX2_hasAllActs_6 : decode cX2_hasAllActs 6 = .ok (.if_icmp .lt 7, 3) := by decide +kernel
theorem dX2_hasAllActs_9 : decode cX2_hasAllActs 9 = .ok (.iconst 1, 1) := by decide +kernel
theorem dX2_hasAllActs_10 : decode cX2_hasAllActs 10 = .ok (.goto 4, 3) := by decide +kernel
theorem dX2_hasAllActs_13 : decode cX2_hasAllActs 13 = .ok (.iconst 0, 1) := by decide +kernel
theorem dX2_hasAllActs_14 : decode cX2_hasAllActs 14 = .ok (.ireturn, 1) := by decide +kernel
theorem dX2_tell_0 : decode cX2_tell 0 = .ok (.aload_n 0, 1) := by decide +kernel
theorem dX2_tell_1 : decode cX2_tell 1 = .ok (.invokevirtual 51, 3) := by decide +kernel
theorem dX2_tell_4 : decode cX2_tell 4 = .ok (.ifCond .eq 5, 3) := by decide +kernel
theorem dX2_tell_7 : decode cX2_tell 7 = .ok (.iconst (-1), 1) := by decide +kernel
theorem dX2_tell_8 : decode cX2_tell 8 = .ok (.ireturn, 1) := by decide +kernel
theorem dX2_tell_9 : decode cX2_tell 9 = .ok (.aload_n 0, 1) := by decide +kernel
theorem dX2_tell_10 : decode cX2_tell 10 = .ok (.getfield 48, 3) := by decide +kernel
theorem dX2_tell_13 : decode cX2_tell 13 = .ok (.istore 7, 2) := by decide +kernel
theorem dX2_tell_15 : decode cX2_tell 15 = .ok (.aload_n 0, 1) := by decide +kernel
theorem dX2_tell_16 : decode cX2_tell 16 = .ok (.getfield 17, 3) := by decide +kernel
theorem dX2_tell_19 : decode cX2_tell 19 = .ok (.iload 7, 2) := by decide +kernel
theorem dX2_tell_21 : decode cX2_tell 21 = .ok (.aaload, 1) := by decide +kernel
theorem dX2_tell_22 : decode cX2_tell 22 = .ok (.astore 8, 2) := by decide +kernel
theorem dX2_tell_24 : decode cX2_tell 24 = .ok (.aload 8, 2) := by decide +kernel
theorem dX2_tell_26 : decode cX2_tell 26 = .ok (.iload_n 1, 1) := by decide +kernel
theorem dX2_tell_27 : decode cX2_tell 27 = .ok (.putfield 54, 3) := by decide +kernel
theorem dX2_tell_30 : decode cX2_tell 30 = .ok (.aload 8, 2) := by decide +kernel
theorem dX2_tell_32 : decode cX2_tell 32 = .ok (.iload_n 2, 1) := by decide +kernel
theorem dX2_tell_33 : decode cX2_tell 33 = .ok (.putfield 57, 3) := by decide +kernel
theorem dX2_tell_36 : decode cX2_tell 36 = .ok (.aload 8, 2) := by decide +kernel
theorem dX2_tell_38 : decode cX2_tell 38 = .ok (.iload_n 3, 1) := by decide +kernel
theorem dX2_tell_39 : decode cX2_tell 39 = .ok (.putfield 60, 3) := by decide +kernel
theorem dX2_tell_42 : decode cX2_tell 42 = .ok (.aload 8, 2) := by decide +kernel
theorem dX2_tell_44 : decode cX2_tell 44 = .ok (.iload 4, 2) := by decide +kernel
theorem dX2_tell_46 : decode cX2_tell 46 = .ok (.putfield 63, 3) := by decide +kernel
theorem dX2_tell_49 : decode cX2_tell 49 = .ok (.aload 8, 2) := by decide +kernel
theorem dX2_tell_51 : decode cX2_tell 51 = .ok (.lload 5, 2) := by decide +kernel
theorem dX2_tell_53 : decode cX2_tell 53 = .ok (.putfield 66, 3) := by decide +kernel
theorem dX2_tell_56 : decode cX2_tell 56 = .ok (.aload_n 0, 1) := by decide +kernel
theorem dX2_tell_57 : decode cX2_tell 57 = .ok (.iload 4, 2) := by decide +kernel
theorem dX2_tell_59 : decode cX2_tell 59 = .ok (.invokevirtual 70, 3) := by decide +kernel
theorem dX2_tell_62 : decode cX2_tell 62 = .ok (.istore 9, 2) := by decide +kernel
theorem dX2_tell_64 : decode cX2_tell 64 = .ok (.aload_n 0, 1) := by decide +kernel
theorem dX2_tell_65 : decode cX2_tell 65 = .ok (.getfield 21, 3) := by decide +kernel
theorem dX2_tell_68 : decode cX2_tell 68 = .ok (.iload 9, 2) := by decide +kernel
theorem dX2_tell_70 : decode cX2_tell 70 = .ok (.aload_n 0, 1) := by decide +kernel
theorem dX2_tell_71 : decode cX2_tell 71 = .ok (.getfield 21, 3) := by decide +kernel
theorem dX2_tell_74 : decode cX2_tell 74 = .ok (.iload 9, 2) := by decide +kernel
theorem dX2_tell_76 : decode cX2_tell 76 = .ok (.iconst 1, 1) := by decide +kernel
theorem dX2_tell_77 : decode cX2_tell 77 = .ok (.iadd, 1) := by decide +kernel
theorem dX2_tell_78 : decode cX2_tell 78 = .ok (.aload_n 0, 1) := by decide +kernel
theorem dX2_tell_79 : decode cX2_tell 79 = .ok (.getfield 48, 3) := by decide +kernel
theorem dX2_tell_82 : decode cX2_tell 82 = .ok (.iload 9, 2) := by decide +kernel
theorem dX2_tell_84 : decode cX2_tell 84 = .ok (.isub, 1) := by decide +kernel
theorem dX2_tell_85 : decode cX2_tell 85 = .ok (.invokestatic 73, 3) := by decide +kernel
theorem dX2_tell_88 : decode cX2_tell 88 = .ok (.aload_n 0, 1) := by decide +kernel
theorem dX2_tell_89 : decode cX2_tell 89 = .ok (.getfield 21, 3) := by decide +kernel
theorem dX2_tell_92 : decode cX2_tell 92 = .ok (.iload 9, 2) := by decide +kernel
theorem dX2_tell_94 : decode cX2_tell 94 = .ok (.iload 7, 2) := by decide +kernel
theorem dX2_tell_96 : decode cX2_tell 96 = .ok (.iastore, 1) := by decide +kernel
theorem dX2_tell_97 : decode cX2_tell 97 = .ok (.aload_n 0, 1) := by decide +kernel
theorem dX2_tell_98 : decode cX2_tell 98 = .ok (.dup, 1) := by decide +kernel
theorem dX2_tell_99 : decode cX2_tell 99 = .ok (.getfield 48, 3) := by decide +kernel
theorem dX2_tell_102 : decode cX2_tell 102 = .ok (.iconst 1, 1) := by decide +kernel
theorem dX2_tell_103 : decode cX2_tell 103 = .ok (.iadd, 1) := by decide +kernel
theorem dX2_tell_104 : decode cX2_tell 104 = .ok (.putfield 48, 3) := by decide +kernel
theorem dX2_tell_107 : decode cX2_tell 107 = .ok (.aload_n 0, 1) := by decide +kernel
theorem dX2_tell_108 : decode cX2_tell 108 = .ok (.iload 9, 2) := by decide +kernel
theorem dX2_tell_110 : decode cX2_tell 110 = .ok (.invokevirtual 79, 3) := by decide +kernel
theorem dX2_tell_113 : decode cX2_tell 113 = .ok (.iload 7, 2) := by decide +kernel
theorem dX2_tell_115 : decode cX2_tell 115 = .ok (.ireturn, 1) := by decide +kernel
theorem dX2_dropLatest_0 : decode cX2_dropLatest 0 = .ok (.aload_n 0, 1) := by decide +kernel
theorem dX2_dropLatest_1 : decode cX2_dropLatest 1 = .ok (.getfield 48, 3) := by decide +kernel
theorem dX2_dropLatest_4 : decode cX2_dropLatest 4 = .ok (.ifCond .le 52, 3) := by decide +kernel
theorem dX2_dropLatest_7 : decode cX2_dropLatest 7 = .ok (.aload_n 0, 1) := by decide +kernel
theorem dX2_dropLatest_8 : decode cX2_dropLatest 8 = .ok (.dup, 1) := by decide +kernel
theorem dX2_dropLatest_9 : decode cX2_dropLatest 9 = .ok (.getfield 48, 3) := by decide +kernel
theorem dX2_dropLatest_12 : decode cX2_dropLatest 12 = .ok (.iconst 1, 1) := by decide +kernel
theorem dX2_dropLatest_13 : decode cX2_dropLatest 13 = .ok (.isub, 1) := by decide +kernel
theorem dX2_dropLatest_14 : decode cX2_dropLatest 14 = .ok (.putfield 48, 3) := by decide +kernel
theorem dX2_dropLatest_17 : decode cX2_dropLatest 17 = .ok (.aload_n 0, 1) := by decide +kernel
theorem dX2_dropLatest_18 : decode cX2_dropLatest 18 = .ok (.getfield 17, 3) := by decide +kernel
theorem dX2_dropLatest_21 : decode cX2_dropLatest 21 = .ok (.aload_n 0, 1) := by decide +kernel
theorem dX2_dropLatest_22 : decode cX2_dropLatest 22 = .ok (.getfield 48, 3) := by decide +kernel
theorem dX2_dropLatest_25 : decode cX2_dropLatest 25 = .ok (.aaload, 1) := by decide +kernel
theorem dX2_dropLatest_26 : decode cX2_dropLatest 26 = .ok (.getfield 83, 3) := by decide +kernel
theorem dX2_dropLatest_29 : decode cX2_dropLatest 29 = .ok (.istore_n 1, 1) := by decide +kernel
theorem dX2_dropLatest_30 : decode cX2_dropLatest 30 = .ok (.aload_n 0, 1) := by decide +kernel
theorem dX2_dropLatest_31 : decode cX2_dropLatest 31 = .ok (.getfield 21, 3) := by decide +kernel
theorem dX2_dropLatest_34 : decode cX2_dropLatest 34 = .ok (.iload_n 1, 1) := by decide +kernel
theorem dX2_dropLatest_35 : decode cX2_dropLatest 35 = .ok (.iconst 1, 1) := by decide +kernel
theorem dX2_dropLatest_36 : decode cX2_dropLatest 36 = .ok (.iadd, 1) := by decide +kernel
theorem dX2_dropLatest_37 : decode cX2_dropLatest 37 = .ok (.aload_n 0, 1) := by decide +kernel
theorem dX2_dropLatest_38 : decode cX2_dropLatest 38 = .ok (.getfield 21, 3) := by decide +kernel
theorem dX2_dropLatest_41 : decode cX2_dropLatest 41 = .ok (.iload_n 1, 1) := by decide +kernel
theorem dX2_dropLatest_42 : decode cX2_dropLatest 42 = .ok (.aload_n 0, 1) := by decide +kernel
theorem dX2_dropLatest_43 : decode cX2_dropLatest 43 = .ok (.getfield 48, 3) := by decide +kernel
theorem dX2_dropLatest_46 : decode cX2_dropLatest 46 = .ok (.iload_n 1, 1) := by decide +kernel
theorem dX2_dropLatest_47 : decode cX2_dropLatest 47 = .ok (.isub, 1) := by decide +kernel
theorem dX2_dropLatest_48 : decode cX2_dropLatest 48 = .ok (.invokestatic 73, 3) := by decide +kernel
theorem dX2_dropLatest_51 : decode cX2_dropLatest 51 = .ok (.aload_n 0, 1) := by decide +kernel
theorem dX2_dropLatest_52 : decode cX2_dropLatest 52 = .ok (.iload_n 1, 1) := by decide +kernel
theorem dX2_dropLatest_53 : decode cX2_dropLatest 53 = .ok (.invokevirtual 79, 3) := by decide +kernel
theorem dX2_dropLatest_56 : decode cX2_dropLatest 56 = .ok (.return_, 1) := by decide +kernel
theorem dX2_redoFrom_0 : decode cX2_redoFrom 0 = .ok (.iload_n 1, 1) := by decide +kernel
theorem dX2_redoFrom_1 : decode cX2_redoFrom 1 = .ok (.istore_n 2, 1) := by decide +kernel
theorem dX2_redoFrom_2 : decode cX2_redoFrom 2 = .ok (.iload_n 2, 1) := by decide +kernel
theorem dX2_redoFrom_3 : decode cX2_redoFrom 3 = .ok (.aload_n 0, 1) := by decide +kernel
theorem dX2_redoFrom_4 : decode cX2_redoFrom 4 = .ok (.getfield 48, 3) := by decide +kernel
theorem dX2_redoFrom_7 : decode cX2_redoFrom 7 = .ok (.if_icmp .ge 71, 3) := by decide +kernel
theorem dX2_redoFrom_10 : decode cX2_redoFrom 10 = .ok (.aload_n 0, 1) := by decide +kernel
theorem dX2_redoFrom_11 : decode cX2_redoFrom 11 = .ok (.getfield 17, 3) := by decide +kernel
theorem dX2_redoFrom_14 : decode cX2_redoFrom 14 = .ok (.aload_n 0, 1) := by decide +kernel
theorem dX2_redoFrom_15 : decode cX2_redoFrom 15 = .ok (.getfield 21, 3) := by decide +kernel
theorem dX2_redoFrom_18 : decode cX2_redoFrom 18 = .ok (.iload_n 2, 1) := by decide +kernel
theorem dX2_redoFrom_19 : decode cX2_redoFrom 19 = .ok (.iaload, 1) := by decide +kernel
theorem dX2_redoFrom_20 : decode cX2_redoFrom 20 = .ok (.aaload, 1) := by decide +kernel
theorem dX2_redoFrom_21 : decode cX2_redoFrom 21 = .ok (.astore_n 3, 1) := by decide +kernel
theorem dX2_redoFrom_22 : decode cX2_redoFrom 22 = .ok (.aload_n 0, 1) := by decide +kernel
theorem dX2_redoFrom_23 : decode cX2_redoFrom 23 = .ok (.getfield 26, 3) := by decide +kernel
theorem dX2_redoFrom_26 : decode cX2_redoFrom 26 = .ok (.iload_n 2, 1) := by decide +kernel
theorem dX2_redoFrom_27 : decode cX2_redoFrom 27 = .ok (.iconst 1, 1) := by decide +kernel
theorem dX2_redoFrom_28 : decode cX2_redoFrom 28 = .ok (.iadd, 1) := by decide +kernel
theorem dX2_redoFrom_29 : decode cX2_redoFrom 29 = .ok (.aaload, 1) := by decide +kernel
theorem dX2_redoFrom_30 : decode cX2_redoFrom 30 = .ok (.astore 4, 2) := by decide +kernel
theorem dX2_redoFrom_32 : decode cX2_redoFrom 32 = .ok (.aload 4, 2) := by decide +kernel
theorem dX2_redoFrom_34 : decode cX2_redoFrom 34 = .ok (.aload_n 0, 1) := by decide +kernel
theorem dX2_redoFrom_35 : decode cX2_redoFrom 35 = .ok (.getfield 26, 3) := by decide +kernel
theorem dX2_redoFrom_38 : decode cX2_redoFrom 38 = .ok (.iload_n 2, 1) := by decide +kernel
theorem dX2_redoFrom_39 : decode cX2_redoFrom 39 = .ok (.aaload, 1) := by decide +kernel
theorem dX2_redoFrom_40 : decode cX2_redoFrom 40 = .ok (.invokevirtual 86, 3) := by decide +kernel
theorem dX2_redoFrom_43 : decode cX2_redoFrom 43 = .ok (.aload_n 3, 1) := by decide +kernel
theorem dX2_redoFrom_44 : decode cX2_redoFrom 44 = .ok (.iload_n 2, 1) := by decide +kernel
theorem dX2_redoFrom_45 : decode cX2_redoFrom 45 = .ok (.putfield 83, 3) := by decide +kernel
theorem dX2_redoFrom_48 : decode cX2_redoFrom 48 = .ok (.aload_n 3, 1) := by decide +kernel
theorem dX2_redoFrom_49 : decode cX2_redoFrom 49 = .ok (.lconst 0, 1) := by decide +kernel
theorem dX2_redoFrom_50 : decode cX2_redoFrom 50 = .ok (.putfield 90, 3) := by decide +kernel
theorem dX2_redoFrom_53 : decode cX2_redoFrom 53 = .ok (.aload_n 3, 1) := by decide +kernel
theorem dX2_redoFrom_54 : decode cX2_redoFrom 54 = .ok (.aload_n 0, 1) := by decide +kernel
theorem dX2_redoFrom_55 : decode cX2_redoFrom 55 = .ok (.aload_n 3, 1) := by decide +kernel
theorem dX2_redoFrom_56 : decode cX2_redoFrom 56 = .ok (.aload 4, 2) := by decide +kernel
theorem dX2_redoFrom_58 : decode cX2_redoFrom 58 = .ok (.invokevirtual 93, 3) := by decide +kernel
theorem dX2_redoFrom_61 : decode cX2_redoFrom 61 = .ok (.ifCond .ne 7, 3) := by decide +kernel
theorem dX2_redoFrom_64 : decode cX2_redoFrom 64 = .ok (.iconst 1, 1) := by decide +kernel
theorem dX2_redoFrom_65 : decode cX2_redoFrom 65 = .ok (.goto 4, 3) := by decide +kernel
theorem dX2_redoFrom_68 : decode cX2_redoFrom 68 = .ok (.iconst 0, 1) := by decide +kernel
theorem dX2_redoFrom_69 : decode cX2_redoFrom 69 = .ok (.putfield 97, 3) := by decide +kernel
theorem dX2_redoFrom_72 : decode cX2_redoFrom 72 = .ok (.iinc 2 1, 3) := by decide +kernel
theorem dX2_redoFrom_75 : decode cX2_redoFrom 75 = .ok (.goto (-73), 3) := by decide +kernel
theorem dX2_redoFrom_78 : decode cX2_redoFrom 78 = .ok (.return_, 1) := by decide +kernel
theorem dX2_perform_0 : decode cX2_perform 0 = .ok (.aload_n 1, 1) := by decide +kernel
theorem dX2_perform_1 : decode cX2_perform 1 = .ok (.getfield 54, 3) := by decide +kernel
theorem dX2_perform_4 : decode cX2_perform 4 = .ok (.tableswitch 58 0 3 #[32, 38, 44, 51], 32) := by decide +kernel
theorem dX2_perform_36 : decode cX2_perform 36 = .ok (.aload_n 1, 1) := by decide +kernel
theorem dX2_perform_37 : decode cX2_perform 37 = .ok (.aload_n 2, 1) := by decide +kernel
theorem dX2_perform_38 : decode cX2_perform 38 = .ok (.invokestatic 101, 3) := by decide +kernel
theorem dX2_perform_41 : decode cX2_perform 41 = .ok (.ireturn, 1) := by decide +kernel
theorem dX2_perform_42 : decode cX2_perform 42 = .ok (.aload_n 1, 1) := by decide +kernel
theorem dX2_perform_43 : decode cX2_perform 43 = .ok (.aload_n 2, 1) := by decide +kernel
theorem dX2_perform_44 : decode cX2_perform 44 = .ok (.invokestatic 104, 3) := by decide +kernel
theorem dX2_perform_47 : decode cX2_perform 47 = .ok (.ireturn, 1) := by decide +kernel
theorem dX2_perform_48 : decode cX2_perform 48 = .ok (.aload_n 0, 1) := by decide +kernel
theorem dX2_perform_49 : decode cX2_perform 49 = .ok (.aload_n 1, 1) := by decide +kernel
theorem dX2_perform_50 : decode cX2_perform 50 = .ok (.aload_n 2, 1) := by decide +kernel
theorem dX2_perform_51 : decode cX2_perform 51 = .ok (.invokevirtual 107, 3) := by decide +kernel
theorem dX2_perform_54 : decode cX2_perform 54 = .ok (.ireturn, 1) := by decide +kernel
theorem dX2_perform_55 : decode cX2_perform 55 = .ok (.aload_n 0, 1) := by decide +kernel
theorem dX2_perform_56 : decode cX2_perform 56 = .ok (.aload_n 1, 1) := by decide +kernel
theorem dX2_perform_57 : decode cX2_perform 57 = .ok (.aload_n 2, 1) := by decide +kernel
theorem dX2_perform_58 : decode cX2_perform 58 = .ok (.invokevirtual 110, 3) := by decide +kernel
theorem dX2_perform_61 : decode cX2_perform 61 = .ok (.ireturn, 1) := by decide +kernel
theorem dX2_perform_62 : decode cX2_perform 62 = .ok (.aload_n 1, 1) := by decide +kernel
theorem dX2_perform_63 : decode cX2_perform 63 = .ok (.aload_n 2, 1) := by decide +kernel
theorem dX2_perform_64 : decode cX2_perform 64 = .ok (.invokestatic 113, 3) := by decide +kernel
theorem dX2_perform_67 : decode cX2_perform 67 = .ok (.ireturn, 1) := by decide +kernel
theorem dX2_performFound_0 : decode cX2_performFound 0 = .ok (.aload_n 1, 1) := by decide +kernel
theorem dX2_performFound_1 : decode cX2_performFound 1 = .ok (.aload_n 0, 1) := by decide +kernel
theorem dX2_performFound_2 : decode cX2_performFound 2 = .ok (.getfield 57, 3) := by decide +kernel
theorem dX2_performFound_5 : decode cX2_performFound 5 = .ok (.invokevirtual 116, 3) := by decide +kernel
theorem dX2_performFound_8 : decode cX2_performFound 8 = .ok (.ifCond .eq 5, 3) := by decide +kernel
theorem dX2_performFound_11 : decode cX2_performFound 11 = .ok (.iconst 0, 1) := by decide +kernel
theorem dX2_performFound_12 : decode cX2_performFound 12 = .ok (.ireturn, 1) := by decide +kernel
theorem dX2_performFound_13 : decode cX2_performFound 13 = .ok (.aload_n 1, 1) := by decide +kernel
theorem dX2_performFound_14 : decode cX2_performFound 14 = .ok (.aload_n 0, 1) := by decide +kernel
theorem dX2_performFound_15 : decode cX2_performFound 15 = .ok (.getfield 57, 3) := by decide +kernel
theorem dX2_performFound_18 : decode cX2_performFound 18 = .ok (.invokevirtual 119, 3) := by decide +kernel
theorem dX2_performFound_21 : decode cX2_performFound 21 = .ok (.aload_n 0, 1) := by decide +kernel
theorem dX2_performFound_22 : decode cX2_performFound 22 = .ok (.aload_n 0, 1) := by decide +kernel
theorem dX2_performFound_23 : decode cX2_performFound 23 = .ok (.getfield 66, 3) := by decide +kernel
theorem dX2_performFound_26 : decode cX2_performFound 26 = .ok (.aload_n 1, 1) := by decide +kernel
theorem dX2_performFound_27 : decode cX2_performFound 27 = .ok (.aload_n 0, 1) := by decide +kernel
theorem dX2_performFound_28 : decode cX2_performFound 28 = .ok (.getfield 57, 3) := by decide +kernel
theorem dX2_performFound_31 : decode cX2_performFound 31 = .ok (.invokevirtual 122, 3) := by decide +kernel
theorem dX2_performFound_34 : decode cX2_performFound 34 = .ok (.ldc2_w 126, 3) := by decide +kernel
theorem dX2_performFound_37 : decode cX2_performFound 37 = .ok (.lxor, 1) := by decide +kernel
theorem dX2_performFound_38 : decode cX2_performFound 38 = .ok (.land, 1) := by decide +kernel
theorem dX2_performFound_39 : decode cX2_performFound 39 = .ok (.putfield 90, 3) := by decide +kernel
theorem dX2_performFound_42 : decode cX2_performFound 42 = .ok (.aload_n 1, 1) := by decide +kernel
theorem dX2_performFound_43 : decode cX2_performFound 43 = .ok (.aload_n 0, 1) := by decide +kernel
theorem dX2_performFound_44 : decode cX2_performFound 44 = .ok (.getfield 90, 3) := by decide +kernel
theorem dX2_performFound_47 : decode cX2_performFound 47 = .ok (.aload_n 0, 1) := by decide +kernel
theorem dX2_performFound_48 : decode cX2_performFound 48 = .ok (.getfield 57, 3) := by decide +kernel
theorem dX2_performFound_51 : decode cX2_performFound 51 = .ok (.invokevirtual 128, 3) := by decide +kernel
theorem dX2_performFound_54 : decode cX2_performFound 54 = .ok (.iconst 1, 1) := by decide +kernel
theorem dX2_performFound_55 : decode cX2_performFound 55 = .ok (.ireturn, 1) := by decide +kernel
theorem dX2_performMove_0 : decode cX2_performMove 0 = .ok (.aload_n 0, 1) := by decide +kernel
theorem dX2_performMove_1 : decode cX2_performMove 1 = .ok (.getfield 66, 3) := by decide +kernel
theorem dX2_performMove_4 : decode cX2_performMove 4 = .ok (.aload_n 1, 1) := by decide +kernel
theorem dX2_performMove_5 : decode cX2_performMove 5 = .ok (.aload_n 0, 1) := by decide +kernel
theorem dX2_performMove_6 : decode cX2_performMove 6 = .ok (.getfield 57, 3) := by decide +kernel
theorem dX2_performMove_9 : decode cX2_performMove 9 = .ok (.invokevirtual 122, 3) := by decide +kernel
theorem dX2_performMove_12 : decode cX2_performMove 12 = .ok (.land, 1) := by decide +kernel
theorem dX2_performMove_13 : decode cX2_performMove 13 = .ok (.lstore_n 2, 1) := by decide +kernel
theorem dX2_performMove_14 : decode cX2_performMove 14 = .ok (.aload_n 1, 1) := by decide +kernel
theorem dX2_performMove_15 : decode cX2_performMove 15 = .ok (.aload_n 0, 1) := by decide +kernel
theorem dX2_performMove_16 : decode cX2_performMove 16 = .ok (.getfield 57, 3) := by decide +kernel
theorem dX2_performMove_19 : decode cX2_performMove 19 = .ok (.invokevirtual 116, 3) := by decide +kernel
theorem dX2_performMove_22 : decode cX2_performMove 22 = .ok (.ifCond .eq 20, 3) := by decide +kernel
theorem dX2_performMove_25 : decode cX2_performMove 25 = .ok (.aload_n 1, 1) := by decide +kernel
theorem dX2_performMove_26 : decode cX2_performMove 26 = .ok (.aload_n 0, 1) := by decide +kernel
theorem dX2_performMove_27 : decode cX2_performMove 27 = .ok (.getfield 60, 3) := by decide +kernel
theorem dX2_performMove_30 : decode cX2_performMove 30 = .ok (.invokevirtual 116, 3) := by decide +kernel
theorem dX2_performMove_33 : decode cX2_performMove 33 = .ok (.ifCond .eq 9, 3) := by decide +kernel
theorem dX2_performMove_36 : decode cX2_performMove 36 = .ok (.lload_n 2, 1) := by decide +kernel
theorem dX2_performMove_37 : decode cX2_performMove 37 = .ok (.lconst 0, 1) := by decide +kernel
theorem dX2_performMove_38 : decode cX2_performMove 38 = .ok (.lcmp, 1) := by decide +kernel
theorem dX2_performMove_39 : decode cX2_performMove 39 = .ok (.ifCond .ne 5, 3) := by decide +kernel
theorem dX2_performMove_42 : decode cX2_performMove 42 = .ok (.iconst 0, 1) := by decide +kernel
theorem dX2_performMove_43 : decode cX2_performMove 43 = .ok (.ireturn, 1) := by decide +kernel
theorem dX2_performMove_44 : decode cX2_performMove 44 = .ok (.aload_n 0, 1) := by decide +kernel
theorem dX2_performMove_45 : decode cX2_performMove 45 = .ok (.lload_n 2, 1) := by decide +kernel
theorem dX2_performMove_46 : decode cX2_performMove 46 = .ok (.putfield 90, 3) := by decide +kernel
theorem dX2_performMove_49 : decode cX2_performMove 49 = .ok (.aload_n 1, 1) := by decide +kernel
theorem dX2_performMove_50 : decode cX2_performMove 50 = .ok (.lload_n 2, 1) := by decide +kernel
theorem dX2_performMove_51 : decode cX2_performMove 51 = .ok (.aload_n 0, 1) := by decide +kernel
theorem dX2_performMove_52 : decode cX2_performMove 52 = .ok (.getfield 60, 3) := by decide +kernel
theorem dX2_performMove_55 : decode cX2_performMove 55 = .ok (.invokevirtual 128, 3) := by decide +kernel
theorem dX2_performMove_58 : decode cX2_performMove 58 = .ok (.iconst 1, 1) := by decide +kernel
theorem dX2_performMove_59 : decode cX2_performMove 59 = .ok (.ireturn, 1) := by decide +kernel
theorem dX2_performSwallow_0 : decode cX2_performSwallow 0 = .ok (.aload_n 2, 1) := by decide +kernel
theorem dX2_performSwallow_1 : decode cX2_performSwallow 1 = .ok (.aload_n 1, 1) := by decide +kernel
theorem dX2_performSwallow_2 : decode cX2_performSwallow 2 = .ok (.getfield 57, 3) := by decide +kernel
theorem dX2_performSwallow_5 : decode cX2_performSwallow 5 = .ok (.invokevirtual 116, 3) := by decide +kernel
theorem dX2_performSwallow_8 : decode cX2_performSwallow 8 = .ok (.ifCond .eq 26, 3) := by decide +kernel
theorem dX2_performSwallow_11 : decode cX2_performSwallow 11 = .ok (.aload_n 2, 1) := by decide +kernel
theorem dX2_performSwallow_12 : decode cX2_performSwallow 12 = .ok (.aload_n 1, 1) := by decide +kernel
theorem dX2_performSwallow_13 : decode cX2_performSwallow 13 = .ok (.getfield 60, 3) := by decide +kernel
theorem dX2_performSwallow_16 : decode cX2_performSwallow 16 = .ok (.invokevirtual 116, 3) := by decide +kernel
theorem dX2_performSwallow_19 : decode cX2_performSwallow 19 = .ok (.ifCond .eq 15, 3) := by decide +kernel
theorem dX2_performSwallow_22 : decode cX2_performSwallow 22 = .ok (.aload_n 0, 1) := by decide +kernel
theorem dX2_performSwallow_23 : decode cX2_performSwallow 23 = .ok (.aload_n 1, 1) := by decide +kernel
theorem dX2_performSwallow_24 : decode cX2_performSwallow 24 = .ok (.getfield 57, 3) := by decide +kernel
theorem dX2_performSwallow_27 : decode cX2_performSwallow 27 = .ok (.invokevirtual 44, 3) := by decide +kernel
theorem dX2_performSwallow_30 : decode cX2_performSwallow 30 = .ok (.iconst 2, 1) := by decide +kernel
theorem dX2_performSwallow_31 : decode cX2_performSwallow 31 = .ok (.if_icmp .ne 5, 3) := by decide +kernel
theorem dX2_performSwallow_34 : decode cX2_performSwallow 34 = .ok (.iconst 0, 1) := by decide +kernel
theorem dX2_performSwallow_35 : decode cX2_performSwallow 35 = .ok (.ireturn, 1) := by decide +kernel
theorem dX2_performSwallow_36 : decode cX2_performSwallow 36 = .ok (.aload_n 1, 1) := by decide +kernel
theorem dX2_performSwallow_37 : decode cX2_performSwallow 37 = .ok (.aload_n 2, 1) := by decide +kernel
theorem dX2_performSwallow_38 : decode cX2_performSwallow 38 = .ok (.aload_n 1, 1) := by decide +kernel
theorem dX2_performSwallow_39 : decode cX2_performSwallow 39 = .ok (.getfield 57, 3) := by decide +kernel
theorem dX2_performSwallow_42 : decode cX2_performSwallow 42 = .ok (.invokevirtual 122, 3) := by decide +kernel
theorem dX2_performSwallow_45 : decode cX2_performSwallow 45 = .ok (.putfield 90, 3) := by decide +kernel
theorem dX2_performSwallow_48 : decode cX2_performSwallow 48 = .ok (.aload_n 2, 1) := by decide +kernel
theorem dX2_performSwallow_49 : decode cX2_performSwallow 49 = .ok (.aload_n 1, 1) := by decide +kernel
theorem dX2_performSwallow_50 : decode cX2_performSwallow 50 = .ok (.getfield 90, 3) := by decide +kernel
theorem dX2_performSwallow_53 : decode cX2_performSwallow 53 = .ok (.aload_n 1, 1) := by decide +kernel
theorem dX2_performSwallow_54 : decode cX2_performSwallow 54 = .ok (.getfield 60, 3) := by decide +kernel
theorem dX2_performSwallow_57 : decode cX2_performSwallow 57 = .ok (.invokevirtual 128, 3) := by decide +kernel
theorem dX2_performSwallow_60 : decode cX2_performSwallow 60 = .ok (.aload_n 2, 1) := by decide +kernel
theorem dX2_performSwallow_61 : decode cX2_performSwallow 61 = .ok (.aload_n 1, 1) := by decide +kernel
theorem dX2_performSwallow_62 : decode cX2_performSwallow 62 = .ok (.getfield 57, 3) := by decide +kernel
theorem dX2_performSwallow_65 : decode cX2_performSwallow 65 = .ok (.invokevirtual 132, 3) := by decide +kernel
theorem dX2_performSwallow_68 : decode cX2_performSwallow 68 = .ok (.iconst 1, 1) := by decide +kernel
theorem dX2_performSwallow_69 : decode cX2_performSwallow 69 = .ok (.ireturn, 1) := by decide +kernel
theorem dX2_performBack_0 : decode cX2_performBack 0 = .ok (.aload_n 0, 1) := by decide +kernel
theorem dX2_performBack_1 : decode cX2_performBack 1 = .ok (.aload_n 1, 1) := by decide +kernel
theorem dX2_performBack_2 : decode cX2_performBack 2 = .ok (.getfield 57, 3) := by decide +kernel
theorem dX2_performBack_5 : decode cX2_performBack 5 = .ok (.invokevirtual 135, 3) := by decide +kernel
theorem dX2_performBack_8 : decode cX2_performBack 8 = .ok (.ifCond .ne 5, 3) := by decide +kernel
theorem dX2_performBack_11 : decode cX2_performBack 11 = .ok (.iconst 0, 1) := by decide +kernel
theorem dX2_performBack_12 : decode cX2_performBack 12 = .ok (.ireturn, 1) := by decide +kernel
theorem dX2_performBack_13 : decode cX2_performBack 13 = .ok (.aload_n 0, 1) := by decide +kernel
theorem dX2_performBack_14 : decode cX2_performBack 14 = .ok (.getfield 17, 3) := by decide +kernel
theorem dX2_performBack_17 : decode cX2_performBack 17 = .ok (.aload_n 1, 1) := by decide +kernel
theorem dX2_performBack_18 : decode cX2_performBack 18 = .ok (.getfield 57, 3) := by decide +kernel
theorem dX2_performBack_21 : decode cX2_performBack 21 = .ok (.aaload, 1) := by decide +kernel
theorem dX2_performBack_22 : decode cX2_performBack 22 = .ok (.astore_n 3, 1) := by decide +kernel
theorem dX2_performBack_23 : decode cX2_performBack 23 = .ok (.aload_n 0, 1) := by decide +kernel
theorem dX2_performBack_24 : decode cX2_performBack 24 = .ok (.getfield 26, 3) := by decide +kernel
theorem dX2_performBack_27 : decode cX2_performBack 27 = .ok (.aload_n 3, 1) := by decide +kernel
theorem dX2_performBack_28 : decode cX2_performBack 28 = .ok (.getfield 83, 3) := by decide +kernel
theorem dX2_performBack_31 : decode cX2_performBack 31 = .ok (.aaload, 1) := by decide +kernel
theorem dX2_performBack_32 : decode cX2_performBack 32 = .ok (.astore 4, 2) := by decide +kernel
theorem dX2_performBack_34 : decode cX2_performBack 34 = .ok (.aload_n 3, 1) := by decide +kernel
theorem dX2_performBack_35 : decode cX2_performBack 35 = .ok (.getfield 90, 3) := by decide +kernel
theorem dX2_performBack_38 : decode cX2_performBack 38 = .ok (.aload_n 2, 1) := by decide +kernel
theorem dX2_performBack_39 : decode cX2_performBack 39 = .ok (.aload_n 3, 1) := by decide +kernel
theorem dX2_performBack_40 : decode cX2_performBack 40 = .ok (.invokevirtual 138, 3) := by decide +kernel
theorem dX2_performBack_43 : decode cX2_performBack 43 = .ok (.invokevirtual 122, 3) := by decide +kernel
theorem dX2_performBack_46 : decode cX2_performBack 46 = .ok (.land, 1) := by decide +kernel
theorem dX2_performBack_47 : decode cX2_performBack 47 = .ok (.lstore 5, 2) := by decide +kernel
theorem dX2_performBack_49 : decode cX2_performBack 49 = .ok (.iconst 0, 1) := by decide +kernel
theorem dX2_performBack_50 : decode cX2_performBack 50 = .ok (.istore 7, 2) := by decide +kernel
theorem dX2_performBack_52 : decode cX2_performBack 52 = .ok (.iload 7, 2) := by decide +kernel
theorem dX2_performBack_54 : decode cX2_performBack 54 = .ok (.bipush 11, 2) := by decide +kernel
theorem dX2_performBack_56 : decode cX2_performBack 56 = .ok (.if_icmp .ge 63, 3) := by decide +kernel
theorem dX2_performBack_59 : decode cX2_performBack 59 = .ok (.lload 5, 2) := by decide +kernel
theorem dX2_performBack_61 : decode cX2_performBack 61 = .ok (.aload 4, 2) := by decide +kernel
theorem dX2_performBack_63 : decode cX2_performBack 63 = .ok (.iload 7, 2) := by decide +kernel
theorem dX2_performBack_65 : decode cX2_performBack 65 = .ok (.invokevirtual 122, 3) := by decide +kernel
theorem dX2_performBack_68 : decode cX2_performBack 68 = .ok (.land, 1) := by decide +kernel
theorem dX2_performBack_69 : decode cX2_performBack 69 = .ok (.lstore 8, 2) := by decide +kernel
theorem dX2_performBack_71 : decode cX2_performBack 71 = .ok (.lload 8, 2) := by decide +kernel
theorem dX2_performBack_73 : decode cX2_performBack 73 = .ok (.lconst 0, 1) := by decide +kernel
theorem dX2_performBack_74 : decode cX2_performBack 74 = .ok (.lcmp, 1) := by decide +kernel
theorem dX2_performBack_75 : decode cX2_performBack 75 = .ok (.ifCond .eq 38, 3) := by decide +kernel
theorem dX2_performBack_78 : decode cX2_performBack 78 = .ok (.iload 7, 2) := by decide +kernel
theorem dX2_performBack_80 : decode cX2_performBack 80 = .ok (.bipush 10, 2) := by decide +kernel
theorem dX2_performBack_82 : decode cX2_performBack 82 = .ok (.if_icmp .eq 12, 3) := by decide +kernel
theorem dX2_performBack_85 : decode cX2_performBack 85 = .ok (.aload_n 2, 1) := by decide +kernel
theorem dX2_performBack_86 : decode cX2_performBack 86 = .ok (.iload 7, 2) := by decide +kernel
theorem dX2_performBack_88 : decode cX2_performBack 88 = .ok (.invokevirtual 116, 3) := by decide +kernel
theorem dX2_performBack_91 : decode cX2_performBack 91 = .ok (.ifCond .eq 22, 3) := by decide +kernel
theorem dX2_performBack_94 : decode cX2_performBack 94 = .ok (.aload_n 1, 1) := by decide +kernel
theorem dX2_performBack_95 : decode cX2_performBack 95 = .ok (.dup, 1) := by decide +kernel
theorem dX2_performBack_96 : decode cX2_performBack 96 = .ok (.getfield 90, 3) := by decide +kernel
theorem dX2_performBack_99 : decode cX2_performBack 99 = .ok (.lload 8, 2) := by decide +kernel
theorem dX2_performBack_101 : decode cX2_performBack 101 = .ok (.lor, 1) := by decide +kernel
theorem dX2_performBack_102 : decode cX2_performBack 102 = .ok (.putfield 90, 3) := by decide +kernel
theorem dX2_performBack_105 : decode cX2_performBack 105 = .ok (.aload_n 2, 1) := by decide +kernel
theorem dX2_performBack_106 : decode cX2_performBack 106 = .ok (.lload 8, 2) := by decide +kernel
theorem dX2_performBack_108 : decode cX2_performBack 108 = .ok (.iload 7, 2) := by decide +kernel
theorem dX2_performBack_110 : decode cX2_performBack 110 = .ok (.invokevirtual 128, 3) := by decide +kernel
theorem dX2_performBack_113 : decode cX2_performBack 113 = .ok (.iinc 7 1, 3) := by decide +kernel
theorem dX2_performBack_116 : decode cX2_performBack 116 = .ok (.goto (-64), 3) := by decide +kernel
theorem dX2_performBack_119 : decode cX2_performBack 119 = .ok (.aload_n 1, 1) := by decide +kernel
theorem dX2_performBack_120 : decode cX2_performBack 120 = .ok (.getfield 90, 3) := by decide +kernel
theorem dX2_performBack_123 : decode cX2_performBack 123 = .ok (.lconst 0, 1) := by decide +kernel
theorem dX2_performBack_124 : decode cX2_performBack 124 = .ok (.lcmp, 1) := by decide +kernel
theorem dX2_performBack_125 : decode cX2_performBack 125 = .ok (.ifCond .eq 7, 3) := by decide +kernel
theorem dX2_performBack_128 : decode cX2_performBack 128 = .ok (.iconst 1, 1) := by decide +kernel
theorem dX2_performBack_129 : decode cX2_performBack 129 = .ok (.goto 4, 3) := by decide +kernel
theorem dX2_performBack_132 : decode cX2_performBack 132 = .ok (.iconst 0, 1) := by decide +kernel
theorem dX2_performBack_133 : decode cX2_performBack 133 = .ok (.ireturn, 1) := by decide +kernel
theorem dX2_performJoin_0 : decode cX2_performJoin 0 = .ok (.aload_n 1, 1) := by decide +kernel
theorem dX2_performJoin_1 : decode cX2_performJoin 1 = .ok (.aload_n 0, 1) := by decide +kernel
theorem dX2_performJoin_2 : decode cX2_performJoin 2 = .ok (.getfield 57, 3) := by decide +kernel
theorem dX2_performJoin_5 : decode cX2_performJoin 5 = .ok (.invokevirtual 116, 3) := by decide +kernel
theorem dX2_performJoin_8 : decode cX2_performJoin 8 = .ok (.ifCond .ne 5, 3) := by decide +kernel
theorem dX2_performJoin_11 : decode cX2_performJoin 11 = .ok (.iconst 0, 1) := by decide +kernel
theorem dX2_performJoin_12 : decode cX2_performJoin 12 = .ok (.ireturn, 1) := by decide +kernel
theorem dX2_performJoin_13 : decode cX2_performJoin 13 = .ok (.aload_n 1, 1) := by decide +kernel
theorem dX2_performJoin_14 : decode cX2_performJoin 14 = .ok (.aload_n 0, 1) := by decide +kernel
theorem dX2_performJoin_15 : decode cX2_performJoin 15 = .ok (.getfield 57, 3) := by decide +kernel
theorem dX2_performJoin_18 : decode cX2_performJoin 18 = .ok (.aload_n 0, 1) := by decide +kernel
theorem dX2_performJoin_19 : decode cX2_performJoin 19 = .ok (.getfield 60, 3) := by decide +kernel
theorem dX2_performJoin_22 : decode cX2_performJoin 22 = .ok (.invokevirtual 142, 3) := by decide +kernel
theorem dX2_performJoin_25 : decode cX2_performJoin 25 = .ok (.iconst 1, 1) := by decide +kernel
theorem dX2_performJoin_26 : decode cX2_performJoin 26 = .ok (.ireturn, 1) := by decide +kernel
theorem dX2_doneUpTo_0 : decode cX2_doneUpTo 0 = .ok (.iconst 0, 1) := by decide +kernel
theorem dX2_doneUpTo_1 : decode cX2_doneUpTo 1 = .ok (.istore_n 2, 1) := by decide +kernel
theorem dX2_doneUpTo_2 : decode cX2_doneUpTo 2 = .ok (.iconst 0, 1) := by decide +kernel
theorem dX2_doneUpTo_3 : decode cX2_doneUpTo 3 = .ok (.istore_n 3, 1) := by decide +kernel
theorem dX2_doneUpTo_4 : decode cX2_doneUpTo 4 = .ok (.iload_n 3, 1) := by decide +kernel
theorem dX2_doneUpTo_5 : decode cX2_doneUpTo 5 = .ok (.aload_n 0, 1) := by decide +kernel
theorem dX2_doneUpTo_6 : decode cX2_doneUpTo 6 = .ok (.getfield 48, 3) := by decide +kernel
theorem dX2_doneUpTo_9 : decode cX2_doneUpTo 9 = .ok (.if_icmp .ge 25, 3) := by decide +kernel
theorem dX2_doneUpTo_12 : decode cX2_doneUpTo 12 = .ok (.aload_n 0, 1) := by decide +kernel
theorem dX2_doneUpTo_13 : decode cX2_doneUpTo 13 = .ok (.getfield 17, 3) := by decide +kernel
theorem dX2_doneUpTo_16 : decode cX2_doneUpTo 16 = .ok (.iload_n 3, 1) := by decide +kernel
theorem dX2_doneUpTo_17 : decode cX2_doneUpTo 17 = .ok (.aaload, 1) := by decide +kernel
theorem dX2_doneUpTo_18 : decode cX2_doneUpTo 18 = .ok (.getfield 63, 3) := by decide +kernel
theorem dX2_doneUpTo_21 : decode cX2_doneUpTo 21 = .ok (.iload_n 1, 1) := by decide +kernel
theorem dX2_doneUpTo_22 : decode cX2_doneUpTo 22 = .ok (.if_icmp .gt 6, 3) := by decide +kernel
theorem dX2_doneUpTo_25 : decode cX2_doneUpTo 25 = .ok (.iinc 2 1, 3) := by decide +kernel
theorem dX2_doneUpTo_28 : decode cX2_doneUpTo 28 = .ok (.iinc 3 1, 3) := by decide +kernel
theorem dX2_doneUpTo_31 : decode cX2_doneUpTo 31 = .ok (.goto (-27), 3) := by decide +kernel
theorem dX2_doneUpTo_34 : decode cX2_doneUpTo 34 = .ok (.iload_n 2, 1) := by decide +kernel
theorem dX2_doneUpTo_35 : decode cX2_doneUpTo 35 = .ok (.ireturn, 1) := by decide +kernel
theorem dX2_momentAt_0 : decode cX2_momentAt 0 = .ok (.aload_n 0, 1) := by decide +kernel
theorem dX2_momentAt_1 : decode cX2_momentAt 1 = .ok (.getfield 26, 3) := by decide +kernel
theorem dX2_momentAt_4 : decode cX2_momentAt 4 = .ok (.aload_n 0, 1) := by decide +kernel
theorem dX2_momentAt_5 : decode cX2_momentAt 5 = .ok (.iload_n 1, 1) := by decide +kernel
theorem dX2_momentAt_6 : decode cX2_momentAt 6 = .ok (.invokevirtual 70, 3) := by decide +kernel
theorem dX2_momentAt_9 : decode cX2_momentAt 9 = .ok (.aaload, 1) := by decide +kernel
theorem dX2_momentAt_10 : decode cX2_momentAt 10 = .ok (.areturn, 1) := by decide +kernel
theorem dX2_actAt_0 : decode cX2_actAt 0 = .ok (.aload_n 0, 1) := by decide +kernel
theorem dX2_actAt_1 : decode cX2_actAt 1 = .ok (.getfield 17, 3) := by decide +kernel
theorem dX2_actAt_4 : decode cX2_actAt 4 = .ok (.aload_n 0, 1) := by decide +kernel
theorem dX2_actAt_5 : decode cX2_actAt 5 = .ok (.iload_n 1, 1) := by decide +kernel
theorem dX2_actAt_6 : decode cX2_actAt 6 = .ok (.invokevirtual 135, 3) := by decide +kernel
theorem dX2_actAt_9 : decode cX2_actAt 9 = .ok (.ifCond .eq 12, 3) := by decide +kernel
theorem dX2_actAt_12 : decode cX2_actAt 12 = .ok (.aload_n 0, 1) := by decide +kernel
theorem dX2_actAt_13 : decode cX2_actAt 13 = .ok (.getfield 21, 3) := by decide +kernel
theorem dX2_actAt_16 : decode cX2_actAt 16 = .ok (.iload_n 1, 1) := by decide +kernel
theorem dX2_actAt_17 : decode cX2_actAt 17 = .ok (.iaload, 1) := by decide +kernel
theorem dX2_actAt_18 : decode cX2_actAt 18 = .ok (.goto 4, 3) := by decide +kernel
theorem dX2_actAt_21 : decode cX2_actAt 21 = .ok (.iconst 0, 1) := by decide +kernel
theorem dX2_actAt_22 : decode cX2_actAt 22 = .ok (.aaload, 1) := by decide +kernel
theorem dX2_actAt_23 : decode cX2_actAt 23 = .ok (.areturn, 1) := by decide +kernel
theorem dX2_heldAt_0 : decode cX2_heldAt 0 = .ok (.aload_n 0, 1) := by decide +kernel
theorem dX2_heldAt_1 : decode cX2_heldAt 1 = .ok (.iload_n 2, 1) := by decide +kernel
theorem dX2_heldAt_2 : decode cX2_heldAt 2 = .ok (.invokevirtual 146, 3) := by decide +kernel
theorem dX2_heldAt_5 : decode cX2_heldAt 5 = .ok (.astore_n 3, 1) := by decide +kernel
theorem dX2_heldAt_6 : decode cX2_heldAt 6 = .ok (.aload_n 0, 1) := by decide +kernel
theorem dX2_heldAt_7 : decode cX2_heldAt 7 = .ok (.iload_n 1, 1) := by decide +kernel
theorem dX2_heldAt_8 : decode cX2_heldAt 8 = .ok (.invokevirtual 150, 3) := by decide +kernel
theorem dX2_heldAt_11 : decode cX2_heldAt 11 = .ok (.ifCond .eq 11, 3) := by decide +kernel
theorem dX2_heldAt_14 : decode cX2_heldAt 14 = .ok (.aload_n 3, 1) := by decide +kernel
theorem dX2_heldAt_15 : decode cX2_heldAt 15 = .ok (.iload_n 1, 1) := by decide +kernel
theorem dX2_heldAt_16 : decode cX2_heldAt 16 = .ok (.invokevirtual 153, 3) := by decide +kernel
theorem dX2_heldAt_19 : decode cX2_heldAt 19 = .ok (.goto 8, 3) := by decide +kernel
theorem dX2_heldAt_22 : decode cX2_heldAt 22 = .ok (.aload_n 3, 1) := by decide +kernel
theorem dX2_heldAt_23 : decode cX2_heldAt 23 = .ok (.iload_n 1, 1) := by decide +kernel
theorem dX2_heldAt_24 : decode cX2_heldAt 24 = .ok (.invokevirtual 122, 3) := by decide +kernel
theorem dX2_heldAt_27 : decode cX2_heldAt 27 = .ok (.lreturn, 1) := by decide +kernel
theorem dX2_makerOfBorder_0 : decode cX2_makerOfBorder 0 = .ok (.aload_n 0, 1) := by decide +kernel
theorem dX2_makerOfBorder_1 : decode cX2_makerOfBorder 1 = .ok (.iload_n 3, 1) := by decide +kernel
theorem dX2_makerOfBorder_2 : decode cX2_makerOfBorder 2 = .ok (.invokevirtual 70, 3) := by decide +kernel
theorem dX2_makerOfBorder_5 : decode cX2_makerOfBorder 5 = .ok (.istore 4, 2) := by decide +kernel
theorem dX2_makerOfBorder_7 : decode cX2_makerOfBorder 7 = .ok (.aload_n 0, 1) := by decide +kernel
theorem dX2_makerOfBorder_8 : decode cX2_makerOfBorder 8 = .ok (.getfield 26, 3) := by decide +kernel
theorem dX2_makerOfBorder_11 : decode cX2_makerOfBorder 11 = .ok (.iload 4, 2) := by decide +kernel
theorem dX2_makerOfBorder_13 : decode cX2_makerOfBorder 13 = .ok (.aaload, 1) := by decide +kernel
theorem dX2_makerOfBorder_14 : decode cX2_makerOfBorder 14 = .ok (.iload_n 1, 1) := by decide +kernel
theorem dX2_makerOfBorder_15 : decode cX2_makerOfBorder 15 = .ok (.iload_n 2, 1) := by decide +kernel
theorem dX2_makerOfBorder_16 : decode cX2_makerOfBorder 16 = .ok (.invokevirtual 156, 3) := by decide +kernel
theorem dX2_makerOfBorder_19 : decode cX2_makerOfBorder 19 = .ok (.ifCond .ne 5, 3) := by decide +kernel
theorem dX2_makerOfBorder_22 : decode cX2_makerOfBorder 22 = .ok (.iconst (-1), 1) := by decide +kernel
theorem dX2_makerOfBorder_23 : decode cX2_makerOfBorder 23 = .ok (.ireturn, 1) := by decide +kernel
theorem dX2_makerOfBorder_24 : decode cX2_makerOfBorder 24 = .ok (.iload 4, 2) := by decide +kernel
theorem dX2_makerOfBorder_26 : decode cX2_makerOfBorder 26 = .ok (.iconst 1, 1) := by decide +kernel
theorem dX2_makerOfBorder_27 : decode cX2_makerOfBorder 27 = .ok (.isub, 1) := by decide +kernel
theorem dX2_makerOfBorder_28 : decode cX2_makerOfBorder 28 = .ok (.istore 5, 2) := by decide +kernel
theorem dX2_makerOfBorder_30 : decode cX2_makerOfBorder 30 = .ok (.iload 5, 2) := by decide +kernel
theorem dX2_makerOfBorder_32 : decode cX2_makerOfBorder 32 = .ok (.ifCond .lt 32, 3) := by decide +kernel
theorem dX2_makerOfBorder_35 : decode cX2_makerOfBorder 35 = .ok (.aload_n 0, 1) := by decide +kernel
theorem dX2_makerOfBorder_36 : decode cX2_makerOfBorder 36 = .ok (.getfield 26, 3) := by decide +kernel
theorem dX2_makerOfBorder_39 : decode cX2_makerOfBorder 39 = .ok (.iload 5, 2) := by decide +kernel
theorem dX2_makerOfBorder_41 : decode cX2_makerOfBorder 41 = .ok (.aaload, 1) := by decide +kernel
theorem dX2_makerOfBorder_42 : decode cX2_makerOfBorder 42 = .ok (.iload_n 1, 1) := by decide +kernel
theorem dX2_makerOfBorder_43 : decode cX2_makerOfBorder 43 = .ok (.iload_n 2, 1) := by decide +kernel
theorem dX2_makerOfBorder_44 : decode cX2_makerOfBorder 44 = .ok (.invokevirtual 156, 3) := by decide +kernel
theorem dX2_makerOfBorder_47 : decode cX2_makerOfBorder 47 = .ok (.ifCond .ne 11, 3) := by decide +kernel
theorem dX2_makerOfBorder_50 : decode cX2_makerOfBorder 50 = .ok (.aload_n 0, 1) := by decide +kernel
theorem dX2_makerOfBorder_51 : decode cX2_makerOfBorder 51 = .ok (.getfield 21, 3) := by decide +kernel
theorem dX2_makerOfBorder_54 : decode cX2_makerOfBorder 54 = .ok (.iload 5, 2) := by decide +kernel
theorem dX2_makerOfBorder_56 : decode cX2_makerOfBorder 56 = .ok (.iaload, 1) := by decide +kernel
theorem dX2_makerOfBorder_57 : decode cX2_makerOfBorder 57 = .ok (.ireturn, 1) := by decide +kernel
theorem dX2_makerOfBorder_58 : decode cX2_makerOfBorder 58 = .ok (.iinc 5 (-1), 3) := by decide +kernel
theorem dX2_makerOfBorder_61 : decode cX2_makerOfBorder 61 = .ok (.goto (-31), 3) := by decide +kernel
theorem dX2_makerOfBorder_64 : decode cX2_makerOfBorder 64 = .ok (.iconst (-1), 1) := by decide +kernel
theorem dX2_makerOfBorder_65 : decode cX2_makerOfBorder 65 = .ok (.ireturn, 1) := by decide +kernel
theorem dX2_firstChange_0 : decode cX2_firstChange 0 = .ok (.iconst 0, 1) := by decide +kernel
theorem dX2_firstChange_1 : decode cX2_firstChange 1 = .ok (.istore_n 3, 1) := by decide +kernel
theorem dX2_firstChange_2 : decode cX2_firstChange 2 = .ok (.iload_n 3, 1) := by decide +kernel
theorem dX2_firstChange_3 : decode cX2_firstChange 3 = .ok (.aload_n 0, 1) := by decide +kernel
theorem dX2_firstChange_4 : decode cX2_firstChange 4 = .ok (.getfield 48, 3) := by decide +kernel
theorem dX2_firstChange_7 : decode cX2_firstChange 7 = .ok (.if_icmp .ge 48, 3) := by decide +kernel
theorem dX2_firstChange_10 : decode cX2_firstChange 10 = .ok (.aload_n 0, 1) := by decide +kernel
theorem dX2_firstChange_11 : decode cX2_firstChange 11 = .ok (.iload_n 3, 1) := by decide +kernel
theorem dX2_firstChange_12 : decode cX2_firstChange 12 = .ok (.invokevirtual 160, 3) := by decide +kernel
theorem dX2_firstChange_15 : decode cX2_firstChange 15 = .ok (.getfield 63, 3) := by decide +kernel
theorem dX2_firstChange_18 : decode cX2_firstChange 18 = .ok (.istore 4, 2) := by decide +kernel
theorem dX2_firstChange_20 : decode cX2_firstChange 20 = .ok (.iload 4, 2) := by decide +kernel
theorem dX2_firstChange_22 : decode cX2_firstChange 22 = .ok (.iload_n 2, 1) := by decide +kernel
theorem dX2_firstChange_23 : decode cX2_firstChange 23 = .ok (.if_icmp .lt 26, 3) := by decide +kernel
theorem dX2_firstChange_26 : decode cX2_firstChange 26 = .ok (.aload_n 0, 1) := by decide +kernel
theorem dX2_firstChange_27 : decode cX2_firstChange 27 = .ok (.iload_n 1, 1) := by decide +kernel
theorem dX2_firstChange_28 : decode cX2_firstChange 28 = .ok (.iload 4, 2) := by decide +kernel
theorem dX2_firstChange_30 : decode cX2_firstChange 30 = .ok (.invokevirtual 164, 3) := by decide +kernel
theorem dX2_firstChange_33 : decode cX2_firstChange 33 = .ok (.aload_n 0, 1) := by decide +kernel
theorem dX2_firstChange_34 : decode cX2_firstChange 34 = .ok (.iload_n 1, 1) := by decide +kernel
theorem dX2_firstChange_35 : decode cX2_firstChange 35 = .ok (.iload 4, 2) := by decide +kernel
theorem dX2_firstChange_37 : decode cX2_firstChange 37 = .ok (.iconst 1, 1) := by decide +kernel
theorem dX2_firstChange_38 : decode cX2_firstChange 38 = .ok (.isub, 1) := by decide +kernel
theorem dX2_firstChange_39 : decode cX2_firstChange 39 = .ok (.invokevirtual 164, 3) := by decide +kernel
theorem dX2_firstChange_42 : decode cX2_firstChange 42 = .ok (.lcmp, 1) := by decide +kernel
theorem dX2_firstChange_43 : decode cX2_firstChange 43 = .ok (.ifCond .eq 6, 3) := by decide +kernel
theorem dX2_firstChange_46 : decode cX2_firstChange 46 = .ok (.iload 4, 2) := by decide +kernel
theorem dX2_firstChange_48 : decode cX2_firstChange 48 = .ok (.ireturn, 1) := by decide +kernel
theorem dX2_firstChange_49 : decode cX2_firstChange 49 = .ok (.iinc 3 1, 3) := by decide +kernel
theorem dX2_firstChange_52 : decode cX2_firstChange 52 = .ok (.goto (-50), 3) := by decide +kernel
theorem dX2_firstChange_55 : decode cX2_firstChange 55 = .ok (.iconst (-1), 1) := by decide +kernel
theorem dX2_firstChange_56 : decode cX2_firstChange 56 = .ok (.ireturn, 1) := by decide +kernel
theorem dX2_voidActs_0 : decode cX2_voidActs 0 = .ok (.iconst 0, 1) := by decide +kernel
theorem dX2_voidActs_1 : decode cX2_voidActs 1 = .ok (.istore_n 1, 1) := by decide +kernel
theorem dX2_voidActs_2 : decode cX2_voidActs 2 = .ok (.iconst 0, 1) := by decide +kernel
theorem dX2_voidActs_3 : decode cX2_voidActs 3 = .ok (.istore_n 2, 1) := by decide +kernel
theorem dX2_voidActs_4 : decode cX2_voidActs 4 = .ok (.iload_n 2, 1) := by decide +kernel
theorem dX2_voidActs_5 : decode cX2_voidActs 5 = .ok (.aload_n 0, 1) := by decide +kernel
theorem dX2_voidActs_6 : decode cX2_voidActs 6 = .ok (.getfield 48, 3) := by decide +kernel
theorem dX2_voidActs_9 : decode cX2_voidActs 9 = .ok (.if_icmp .ge 24, 3) := by decide +kernel
theorem dX2_voidActs_12 : decode cX2_voidActs 12 = .ok (.aload_n 0, 1) := by decide +kernel
theorem dX2_voidActs_13 : decode cX2_voidActs 13 = .ok (.getfield 17, 3) := by decide +kernel
theorem dX2_voidActs_16 : decode cX2_voidActs 16 = .ok (.iload_n 2, 1) := by decide +kernel
theorem dX2_voidActs_17 : decode cX2_voidActs 17 = .ok (.aaload, 1) := by decide +kernel
theorem dX2_voidActs_18 : decode cX2_voidActs 18 = .ok (.getfield 97, 3) := by decide +kernel
theorem dX2_voidActs_21 : decode cX2_voidActs 21 = .ok (.ifCond .eq 6, 3) := by decide +kernel
theorem dX2_voidActs_24 : decode cX2_voidActs 24 = .ok (.iinc 1 1, 3) := by decide +kernel
theorem dX2_voidActs_27 : decode cX2_voidActs 27 = .ok (.iinc 2 1, 3) := by decide +kernel
theorem dX2_voidActs_30 : decode cX2_voidActs 30 = .ok (.goto (-26), 3) := by decide +kernel
theorem dX2_voidActs_33 : decode cX2_voidActs 33 = .ok (.iload_n 1, 1) := by decide +kernel
theorem dX2_voidActs_34 : decode cX2_voidActs 34 = .ok (.ireturn, 1) := by decide +kernel
theorem dX3_isCell_0 : decode cX3_isCell 0 = .ok (.iload_n 0, 1) := by decide +kernel
theorem dX3_isCell_1 : decode cX3_isCell 1 = .ok (.ifCond .lt 13, 3) := by decide +kernel
theorem dX3_isCell_4 : decode cX3_isCell 4 = .ok (.iload_n 0, 1) := by decide +kernel
theorem dX3_isCell_5 : decode cX3_isCell 5 = .ok (.bipush 36, 2) := by decide +kernel
theorem dX3_isCell_7 : decode cX3_isCell 7 = .ok (.if_icmp .ge 7, 3) := by decide +kernel
theorem dX3_isCell_10 : decode cX3_isCell 10 = .ok (.iconst 1, 1) := by decide +kernel
theorem dX3_isCell_11 : decode cX3_isCell 11 = .ok (.goto 4, 3) := by decide +kernel
theorem dX3_isCell_14 : decode cX3_isCell 14 = .ok (.iconst 0, 1) := by decide +kernel
theorem dX3_isCell_15 : decode cX3_isCell 15 = .ok (.ireturn, 1) := by decide +kernel
theorem dX3_isSet_0 : decode cX3_isSet 0 = .ok (.lload_n 0, 1) := by decide +kernel
theorem dX3_isSet_1 : decode cX3_isSet 1 = .ok (.ldc2_w 11, 3) := by decide +kernel
theorem dX3_isSet_4 : decode cX3_isSet 4 = .ok (.land, 1) := by decide +kernel
theorem dX3_isSet_5 : decode cX3_isSet 5 = .ok (.lconst 0, 1) := by decide +kernel
theorem dX3_isSet_6 : decode cX3_isSet 6 = .ok (.lcmp, 1) := by decide +kernel
theorem dX3_isSet_7 : decode cX3_isSet 7 = .ok (.ifCond .ne 7, 3) := by decide +kernel
theorem dX3_isSet_10 : decode cX3_isSet 10 = .ok (.iconst 1, 1) := by decide +kernel
theorem dX3_isSet_11 : decode cX3_isSet 11 = .ok (.goto 4, 3) := by decide +kernel
theorem dX3_isSet_14 : decode cX3_isSet 14 = .ok (.iconst 0, 1) := by decide +kernel
theorem dX3_isSet_15 : decode cX3_isSet 15 = .ok (.ireturn, 1) := by decide +kernel
theorem dX3_has_0 : decode cX3_has 0 = .ok (.lload_n 0, 1) := by decide +kernel
theorem dX3_has_1 : decode cX3_has 1 = .ok (.iload_n 2, 1) := by decide +kernel
theorem dX3_has_2 : decode cX3_has 2 = .ok (.lushr, 1) := by decide +kernel
theorem dX3_has_3 : decode cX3_has 3 = .ok (.lconst 1, 1) := by decide +kernel
theorem dX3_has_4 : decode cX3_has 4 = .ok (.land, 1) := by decide +kernel
theorem dX3_has_5 : decode cX3_has 5 = .ok (.lconst 1, 1) := by decide +kernel
theorem dX3_has_6 : decode cX3_has 6 = .ok (.lcmp, 1) := by decide +kernel
theorem dX3_has_7 : decode cX3_has 7 = .ok (.ifCond .ne 7, 3) := by decide +kernel
theorem dX3_has_10 : decode cX3_has 10 = .ok (.iconst 1, 1) := by decide +kernel
theorem dX3_has_11 : decode cX3_has 11 = .ok (.goto 4, 3) := by decide +kernel
theorem dX3_has_14 : decode cX3_has 14 = .ok (.iconst 0, 1) := by decide +kernel
theorem dX3_has_15 : decode cX3_has 15 = .ok (.ireturn, 1) := by decide +kernel
theorem dX3_areBeside_0 : decode cX3_areBeside 0 = .ok (.iload_n 0, 1) := by decide +kernel
theorem dX3_areBeside_1 : decode cX3_areBeside 1 = .ok (.iload_n 1, 1) := by decide +kernel
theorem dX3_areBeside_2 : decode cX3_areBeside 2 = .ok (.isub, 1) := by decide +kernel
theorem dX3_areBeside_3 : decode cX3_areBeside 3 = .ok (.invokestatic 13, 3) := by decide +kernel
theorem dX3_areBeside_6 : decode cX3_areBeside 6 = .ok (.istore_n 2, 1) := by decide +kernel
theorem dX3_areBeside_7 : decode cX3_areBeside 7 = .ok (.iload_n 2, 1) := by decide +kernel
theorem dX3_areBeside_8 : decode cX3_areBeside 8 = .ok (.bipush 6, 2) := by decide +kernel
theorem dX3_areBeside_10 : decode cX3_areBeside 10 = .ok (.if_icmp .eq 19, 3) := by decide +kernel
theorem dX3_areBeside_13 : decode cX3_areBeside 13 = .ok (.iload_n 2, 1) := by decide +kernel
theorem dX3_areBeside_14 : decode cX3_areBeside 14 = .ok (.iconst 1, 1) := by decide +kernel
theorem dX3_areBeside_15 : decode cX3_areBeside 15 = .ok (.if_icmp .ne 18, 3) := by decide +kernel
theorem dX3_areBeside_18 : decode cX3_areBeside 18 = .ok (.iload_n 0, 1) := by decide +kernel
theorem dX3_areBeside_19 : decode cX3_areBeside 19 = .ok (.bipush 6, 2) := by decide +kernel
theorem dX3_areBeside_21 : decode cX3_areBeside 21 = .ok (.idiv, 1) := by decide +kernel
theorem dX3_areBeside_22 : decode cX3_areBeside 22 = .ok (.iload_n 1, 1) := by decide +kernel
theorem dX3_areBeside_23 : decode cX3_areBeside 23 = .ok (.bipush 6, 2) := by decide +kernel
theorem dX3_areBeside_25 : decode cX3_areBeside 25 = .ok (.idiv, 1) := by decide +kernel
theorem dX3_areBeside_26 : decode cX3_areBeside 26 = .ok (.if_icmp .ne 7, 3) := by decide +kernel
theorem dX3_areBeside_29 : decode cX3_areBeside 29 = .ok (.iconst 1, 1) := by decide +kernel
theorem dX3_areBeside_30 : decode cX3_areBeside 30 = .ok (.goto 4, 3) := by decide +kernel
theorem dX3_areBeside_33 : decode cX3_areBeside 33 = .ok (.iconst 0, 1) := by decide +kernel
theorem dX3_areBeside_34 : decode cX3_areBeside 34 = .ok (.ireturn, 1) := by decide +kernel
theorem dX3_right_0 : decode cX3_right 0 = .ok (.lload_n 0, 1) := by decide +kernel
theorem dX3_right_1 : decode cX3_right 1 = .ok (.iconst 1, 1) := by decide +kernel
theorem dX3_right_2 : decode cX3_right 2 = .ok (.lshl, 1) := by decide +kernel
theorem dX3_right_3 : decode cX3_right 3 = .ok (.ldc2_w 19, 3) := by decide +kernel
theorem dX3_right_6 : decode cX3_right 6 = .ok (.land, 1) := by decide +kernel
theorem dX3_right_7 : decode cX3_right 7 = .ok (.ldc2_w 21, 3) := by decide +kernel
theorem dX3_right_10 : decode cX3_right 10 = .ok (.land, 1) := by decide +kernel
theorem dX3_right_11 : decode cX3_right 11 = .ok (.lreturn, 1) := by decide +kernel
theorem dX3_left_0 : decode cX3_left 0 = .ok (.lload_n 0, 1) := by decide +kernel
theorem dX3_left_1 : decode cX3_left 1 = .ok (.ldc2_w 21, 3) := by decide +kernel
theorem dX3_left_4 : decode cX3_left 4 = .ok (.land, 1) := by decide +kernel
theorem dX3_left_5 : decode cX3_left 5 = .ok (.iconst 1, 1) := by decide +kernel
theorem dX3_left_6 : decode cX3_left 6 = .ok (.lushr, 1) := by decide +kernel
theorem dX3_left_7 : decode cX3_left 7 = .ok (.lreturn, 1) := by decide +kernel
theorem dX3_down_0 : decode cX3_down 0 = .ok (.lload_n 0, 1) := by decide +kernel
theorem dX3_down_1 : decode cX3_down 1 = .ok (.bipush 6, 2) := by decide +kernel
theorem dX3_down_3 : decode cX3_down 3 = .ok (.lshl, 1) := by decide +kernel
theorem dX3_down_4 : decode cX3_down 4 = .ok (.ldc2_w 19, 3) := by decide +kernel
theorem dX3_down_7 : decode cX3_down 7 = .ok (.land, 1) := by decide +kernel
theorem dX3_down_8 : decode cX3_down 8 = .ok (.lreturn, 1) := by decide +kernel
theorem dX3_up_0 : decode cX3_up 0 = .ok (.lload_n 0, 1) := by decide +kernel
theorem dX3_up_1 : decode cX3_up 1 = .ok (.bipush 6, 2) := by decide +kernel
theorem dX3_up_3 : decode cX3_up 3 = .ok (.lushr, 1) := by decide +kernel
theorem dX3_up_4 : decode cX3_up 4 = .ok (.lreturn, 1) := by decide +kernel
theorem dX3_pairsWithin_0 : decode cX3_pairsWithin 0 = .ok (.lload_n 0, 1) := by decide +kernel
theorem dX3_pairsWithin_1 : decode cX3_pairsWithin 1 = .ok (.lload_n 0, 1) := by decide +kernel
theorem dX3_pairsWithin_2 : decode cX3_pairsWithin 2 = .ok (.invokestatic 23, 3) := by decide +kernel
theorem dX3_pairsWithin_5 : decode cX3_pairsWithin 5 = .ok (.land, 1) := by decide +kernel
theorem dX3_pairsWithin_6 : decode cX3_pairsWithin 6 = .ok (.invokestatic 27, 3) := by decide +kernel
theorem dX3_pairsWithin_9 : decode cX3_pairsWithin 9 = .ok (.lload_n 0, 1) := by decide +kernel
theorem dX3_pairsWithin_10 : decode cX3_pairsWithin 10 = .ok (.lload_n 0, 1) := by decide +kernel
theorem dX3_pairsWithin_11 : decode cX3_pairsWithin 11 = .ok (.invokestatic 33, 3) := by decide +kernel
theorem dX3_pairsWithin_14 : decode cX3_pairsWithin 14 = .ok (.land, 1) := by decide +kernel
theorem dX3_pairsWithin_15 : decode cX3_pairsWithin 15 = .ok (.invokestatic 27, 3) := by decide +kernel
theorem dX3_pairsWithin_18 : decode cX3_pairsWithin 18 = .ok (.iadd, 1) := by decide +kernel
theorem dX3_pairsWithin_19 : decode cX3_pairsWithin 19 = .ok (.ireturn, 1) := by decide +kernel
theorem dX3_sides_0 : decode cX3_sides 0 = .ok (.iconst 4, 1) := by decide +kernel
theorem dX3_sides_1 : decode cX3_sides 1 = .ok (.lload_n 0, 1) := by decide +kernel
theorem dX3_sides_2 : decode cX3_sides 2 = .ok (.invokestatic 27, 3) := by decide +kernel
theorem dX3_sides_5 : decode cX3_sides 5 = .ok (.imul, 1) := by decide +kernel
theorem dX3_sides_6 : decode cX3_sides 6 = .ok (.iconst 2, 1) := by decide +kernel
theorem dX3_sides_7 : decode cX3_sides 7 = .ok (.lload_n 0, 1) := by decide +kernel
theorem dX3_sides_8 : decode cX3_sides 8 = .ok (.invokestatic 36, 3) := by decide +kernel
theorem dX3_sides_11 : decode cX3_sides 11 = .ok (.imul, 1) := by decide +kernel
theorem dX3_sides_12 : decode cX3_sides 12 = .ok (.isub, 1) := by decide +kernel
theorem dX3_sides_13 : decode cX3_sides 13 = .ok (.ireturn, 1) := by decide +kernel
theorem dX3_firstOf_0 : decode cX3_firstOf 0 = .ok (.iconst 0, 1) := by decide +kernel
theorem dX3_firstOf_1 : decode cX3_firstOf 1 = .ok (.istore_n 2, 1) := by decide +kernel
theorem dX3_firstOf_2 : decode cX3_firstOf 2 = .ok (.iload_n 2, 1) := by decide +kernel
theorem dX3_firstOf_3 : decode cX3_firstOf 3 = .ok (.bipush 36, 2) := by decide +kernel
theorem dX3_firstOf_5 : decode cX3_firstOf 5 = .ok (.if_icmp .ge 19, 3) := by decide +kernel
theorem dX3_firstOf_8 : decode cX3_firstOf 8 = .ok (.lload_n 0, 1) := by decide +kernel
theorem dX3_firstOf_9 : decode cX3_firstOf 9 = .ok (.iload_n 2, 1) := by decide +kernel
theorem dX3_firstOf_10 : decode cX3_firstOf 10 = .ok (.invokestatic 39, 3) := by decide +kernel
theorem dX3_firstOf_13 : decode cX3_firstOf 13 = .ok (.ifCond .eq 5, 3) := by decide +kernel
theorem dX3_firstOf_16 : decode cX3_firstOf 16 = .ok (.iload_n 2, 1) := by decide +kernel
theorem dX3_firstOf_17 : decode cX3_firstOf 17 = .ok (.ireturn, 1) := by decide +kernel
theorem dX3_firstOf_18 : decode cX3_firstOf 18 = .ok (.iinc 2 1, 3) := by decide +kernel
theorem dX3_firstOf_21 : decode cX3_firstOf 21 = .ok (.goto (-19), 3) := by decide +kernel
theorem dX3_firstOf_24 : decode cX3_firstOf 24 = .ok (.bipush 36, 2) := by decide +kernel
theorem dX3_firstOf_26 : decode cX3_firstOf 26 = .ok (.ireturn, 1) := by decide +kernel
theorem dX3_pieces_0 : decode cX3_pieces 0 = .ok (.iconst 0, 1) := by decide +kernel
theorem dX3_pieces_1 : decode cX3_pieces 1 = .ok (.istore_n 2, 1) := by decide +kernel
theorem dX3_pieces_2 : decode cX3_pieces 2 = .ok (.lload_n 0, 1) := by decide +kernel
theorem dX3_pieces_3 : decode cX3_pieces 3 = .ok (.lstore_n 3, 1) := by decide +kernel
theorem dX3_pieces_4 : decode cX3_pieces 4 = .ok (.iconst 0, 1) := by decide +kernel
end
section
theorem dX3_pieces_5 : decode cX3_pieces 5 = .ok (.istore 5, 2) := by decide +kernel
theorem dX3_pieces_7 : decode cX3_pieces 7 = .ok (.iload 5, 2) := by decide +kernel
theorem dX3_pieces_9 : decode cX3_pieces 9 = .ok (.bipush 36, 2) := by decide +kernel
theorem dX3_pieces_11 : decode cX3_pieces 11 = .ok (.if_icmp .ge 34, 3) := by decide +kernel
theorem dX3_pieces_14 : decode cX3_pieces 14 = .ok (.lload_n 3, 1) := by decide +kernel
theorem dX3_pieces_15 : decode cX3_pieces 15 = .ok (.iload 5, 2) := by decide +kernel
theorem dX3_pieces_17 : decode cX3_pieces 17 = .ok (.invokestatic 39, 3) := by decide +kernel
theorem dX3_pieces_20 : decode cX3_pieces 20 = .ok (.ifCond .eq 19, 3) := by decide +kernel
theorem dX3_pieces_23 : decode cX3_pieces 23 = .ok (.iinc 2 1, 3) := by decide +kernel
theorem dX3_pieces_26 : decode cX3_pieces 26 = .ok (.lload_n 3, 1) := by decide +kernel
theorem dX3_pieces_27 : decode cX3_pieces 27 = .ok (.iload 5, 2) := by decide +kernel
theorem dX3_pieces_29 : decode cX3_pieces 29 = .ok (.lload_n 3, 1) := by decide +kernel
theorem dX3_pieces_30 : decode cX3_pieces 30 = .ok (.invokestatic 43, 3) := by decide +kernel
theorem dX3_pieces_33 : decode cX3_pieces 33 = .ok (.ldc2_w 47, 3) := by decide +kernel
theorem dX3_pieces_36 : decode cX3_pieces 36 = .ok (.lxor, 1) := by decide +kernel
theorem dX3_pieces_37 : decode cX3_pieces 37 = .ok (.land, 1) := by decide +kernel
theorem dX3_pieces_38 : decode cX3_pieces 38 = .ok (.lstore_n 3, 1) := by decide +kernel
theorem dX3_pieces_39 : decode cX3_pieces 39 = .ok (.iinc 5 1, 3) := by decide +kernel
theorem dX3_pieces_42 : decode cX3_pieces 42 = .ok (.goto (-35), 3) := by decide +kernel
theorem dX3_pieces_45 : decode cX3_pieces 45 = .ok (.iload_n 2, 1) := by decide +kernel
theorem dX3_pieces_46 : decode cX3_pieces 46 = .ok (.ireturn, 1) := by decide +kernel
theorem dX3_heapFrom_0 : decode cX3_heapFrom 0 = .ok (.lconst 1, 1) := by decide +kernel
theorem dX3_heapFrom_1 : decode cX3_heapFrom 1 = .ok (.iload_n 0, 1) := by decide +kernel
theorem dX3_heapFrom_2 : decode cX3_heapFrom 2 = .ok (.lshl, 1) := by decide +kernel
theorem dX3_heapFrom_3 : decode cX3_heapFrom 3 = .ok (.lload_n 1, 1) := by decide +kernel
theorem dX3_heapFrom_4 : decode cX3_heapFrom 4 = .ok (.land, 1) := by decide +kernel
theorem dX3_heapFrom_5 : decode cX3_heapFrom 5 = .ok (.lstore_n 3, 1) := by decide +kernel
theorem dX3_heapFrom_6 : decode cX3_heapFrom 6 = .ok (.lconst 0, 1) := by decide +kernel
theorem dX3_heapFrom_7 : decode cX3_heapFrom 7 = .ok (.lstore 5, 2) := by decide +kernel
theorem dX3_heapFrom_9 : decode cX3_heapFrom 9 = .ok (.iconst 0, 1) := by decide +kernel
theorem dX3_heapFrom_10 : decode cX3_heapFrom 10 = .ok (.istore 7, 2) := by decide +kernel
theorem dX3_heapFrom_12 : decode cX3_heapFrom 12 = .ok (.iload 7, 2) := by decide +kernel
theorem dX3_heapFrom_14 : decode cX3_heapFrom 14 = .ok (.bipush 36, 2) := by decide +kernel
theorem dX3_heapFrom_16 : decode cX3_heapFrom 16 = .ok (.if_icmp .ge 43, 3) := by decide +kernel
theorem dX3_heapFrom_19 : decode cX3_heapFrom 19 = .ok (.lload_n 3, 1) := by decide +kernel
theorem dX3_heapFrom_20 : decode cX3_heapFrom 20 = .ok (.lload 5, 2) := by decide +kernel
theorem dX3_heapFrom_22 : decode cX3_heapFrom 22 = .ok (.lcmp, 1) := by decide +kernel
theorem dX3_heapFrom_23 : decode cX3_heapFrom 23 = .ok (.ifCond .eq 36, 3) := by decide +kernel
theorem dX3_heapFrom_26 : decode cX3_heapFrom 26 = .ok (.lload_n 3, 1) := by decide +kernel
theorem dX3_heapFrom_27 : decode cX3_heapFrom 27 = .ok (.lstore 5, 2) := by decide +kernel
theorem dX3_heapFrom_29 : decode cX3_heapFrom 29 = .ok (.lload_n 3, 1) := by decide +kernel
theorem dX3_heapFrom_30 : decode cX3_heapFrom 30 = .ok (.lload_n 3, 1) := by decide +kernel
theorem dX3_heapFrom_31 : decode cX3_heapFrom 31 = .ok (.invokestatic 23, 3) := by decide +kernel
theorem dX3_heapFrom_34 : decode cX3_heapFrom 34 = .ok (.lload_n 3, 1) := by decide +kernel
theorem dX3_heapFrom_35 : decode cX3_heapFrom 35 = .ok (.invokestatic 49, 3) := by decide +kernel
theorem dX3_heapFrom_38 : decode cX3_heapFrom 38 = .ok (.lor, 1) := by decide +kernel
theorem dX3_heapFrom_39 : decode cX3_heapFrom 39 = .ok (.lload_n 3, 1) := by decide +kernel
theorem dX3_heapFrom_40 : decode cX3_heapFrom 40 = .ok (.invokestatic 33, 3) := by decide +kernel
theorem dX3_heapFrom_43 : decode cX3_heapFrom 43 = .ok (.lor, 1) := by decide +kernel
theorem dX3_heapFrom_44 : decode cX3_heapFrom 44 = .ok (.lload_n 3, 1) := by decide +kernel
theorem dX3_heapFrom_45 : decode cX3_heapFrom 45 = .ok (.invokestatic 52, 3) := by decide +kernel
theorem dX3_heapFrom_48 : decode cX3_heapFrom 48 = .ok (.lor, 1) := by decide +kernel
theorem dX3_heapFrom_49 : decode cX3_heapFrom 49 = .ok (.lload_n 1, 1) := by decide +kernel
theorem dX3_heapFrom_50 : decode cX3_heapFrom 50 = .ok (.land, 1) := by decide +kernel
theorem dX3_heapFrom_51 : decode cX3_heapFrom 51 = .ok (.lor, 1) := by decide +kernel
theorem dX3_heapFrom_52 : decode cX3_heapFrom 52 = .ok (.lstore_n 3, 1) := by decide +kernel
theorem dX3_heapFrom_53 : decode cX3_heapFrom 53 = .ok (.iinc 7 1, 3) := by decide +kernel
theorem dX3_heapFrom_56 : decode cX3_heapFrom 56 = .ok (.goto (-44), 3) := by decide +kernel
theorem dX3_heapFrom_59 : decode cX3_heapFrom 59 = .ok (.lload_n 3, 1) := by decide +kernel
theorem dX3_heapFrom_60 : decode cX3_heapFrom 60 = .ok (.lreturn, 1) := by decide +kernel
theorem dX4_init_0 : decode cX4_init 0 = .ok (.aload_n 0, 1) := by decide +kernel
theorem dX4_init_1 : decode cX4_init 1 = .ok (.invokespecial 3, 3) := by decide +kernel
theorem dX4_init_4 : decode cX4_init 4 = .ok (.aload_n 0, 1) := by decide +kernel
theorem dX4_init_5 : decode cX4_init 5 = .ok (.bipush 10, 2) := by decide +kernel
theorem dX4_init_7 : decode cX4_init 7 = .ok (.newarray .long, 2) := by decide +kernel
theorem dX4_init_9 : decode cX4_init 9 = .ok (.putfield 9, 3) := by decide +kernel
theorem dX4_init_12 : decode cX4_init 12 = .ok (.aload_n 0, 1) := by decide +kernel
theorem dX4_init_13 : decode cX4_init 13 = .ok (.bipush 10, 2) := by decide +kernel
theorem dX4_init_15 : decode cX4_init 15 = .ok (.newarray .int, 2) := by decide +kernel
theorem dX4_init_17 : decode cX4_init 17 = .ok (.putfield 15, 3) := by decide +kernel
theorem dX4_init_20 : decode cX4_init 20 = .ok (.aload_n 0, 1) := by decide +kernel
theorem dX4_init_21 : decode cX4_init 21 = .ok (.getfield 15, 3) := by decide +kernel
theorem dX4_init_24 : decode cX4_init 24 = .ok (.bipush 10, 2) := by decide +kernel
theorem dX4_init_26 : decode cX4_init 26 = .ok (.invokestatic 19, 3) := by decide +kernel
theorem dX4_init_29 : decode cX4_init 29 = .ok (.return_, 1) := by decide +kernel
theorem dX4_becomeLike_0 : decode cX4_becomeLike 0 = .ok (.aload_n 1, 1) := by decide +kernel
theorem dX4_becomeLike_1 : decode cX4_becomeLike 1 = .ok (.getfield 9, 3) := by decide +kernel
theorem dX4_becomeLike_4 : decode cX4_becomeLike 4 = .ok (.iconst 0, 1) := by decide +kernel
theorem dX4_becomeLike_5 : decode cX4_becomeLike 5 = .ok (.aload_n 0, 1) := by decide +kernel
theorem dX4_becomeLike_6 : decode cX4_becomeLike 6 = .ok (.getfield 9, 3) := by decide +kernel
theorem dX4_becomeLike_9 : decode cX4_becomeLike 9 = .ok (.iconst 0, 1) := by decide +kernel
theorem dX4_becomeLike_10 : decode cX4_becomeLike 10 = .ok (.bipush 10, 2) := by decide +kernel
theorem dX4_becomeLike_12 : decode cX4_becomeLike 12 = .ok (.invokestatic 25, 3) := by decide +kernel
theorem dX4_becomeLike_15 : decode cX4_becomeLike 15 = .ok (.aload_n 1, 1) := by decide +kernel
theorem dX4_becomeLike_16 : decode cX4_becomeLike 16 = .ok (.getfield 15, 3) := by decide +kernel
theorem dX4_becomeLike_19 : decode cX4_becomeLike 19 = .ok (.iconst 0, 1) := by decide +kernel
theorem dX4_becomeLike_20 : decode cX4_becomeLike 20 = .ok (.aload_n 0, 1) := by decide +kernel
theorem dX4_becomeLike_21 : decode cX4_becomeLike 21 = .ok (.getfield 15, 3) := by decide +kernel
theorem dX4_becomeLike_24 : decode cX4_becomeLike 24 = .ok (.iconst 0, 1) := by decide +kernel
theorem dX4_becomeLike_25 : decode cX4_becomeLike 25 = .ok (.bipush 10, 2) := by decide +kernel
theorem dX4_becomeLike_27 : decode cX4_becomeLike 27 = .ok (.invokestatic 25, 3) := by decide +kernel
theorem dX4_becomeLike_30 : decode cX4_becomeLike 30 = .ok (.aload_n 0, 1) := by decide +kernel
theorem dX4_becomeLike_31 : decode cX4_becomeLike 31 = .ok (.aload_n 1, 1) := by decide +kernel
theorem dX4_becomeLike_32 : decode cX4_becomeLike 32 = .ok (.getfield 31, 3) := by decide +kernel
theorem dX4_becomeLike_35 : decode cX4_becomeLike 35 = .ok (.putfield 31, 3) := by decide +kernel
theorem dX4_becomeLike_38 : decode cX4_becomeLike 38 = .ok (.return_, 1) := by decide +kernel
theorem dX4_isThere_0 : decode cX4_isThere 0 = .ok (.iload_n 1, 1) := by decide +kernel
theorem dX4_isThere_1 : decode cX4_isThere 1 = .ok (.invokestatic 35, 3) := by decide +kernel
theorem dX4_isThere_4 : decode cX4_isThere 4 = .ok (.ifCond .eq 19, 3) := by decide +kernel
theorem dX4_isThere_7 : decode cX4_isThere 7 = .ok (.aload_n 0, 1) := by decide +kernel
theorem dX4_isThere_8 : decode cX4_isThere 8 = .ok (.getfield 31, 3) := by decide +kernel
theorem dX4_isThere_11 : decode cX4_isThere 11 = .ok (.iload_n 1, 1) := by decide +kernel
theorem dX4_isThere_12 : decode cX4_isThere 12 = .ok (.iushr, 1) := by decide +kernel
theorem dX4_isThere_13 : decode cX4_isThere 13 = .ok (.iconst 1, 1) := by decide +kernel
theorem dX4_isThere_14 : decode cX4_isThere 14 = .ok (.iand, 1) := by decide +kernel
theorem dX4_isThere_15 : decode cX4_isThere 15 = .ok (.iconst 1, 1) := by decide +kernel
theorem dX4_isThere_16 : decode cX4_isThere 16 = .ok (.if_icmp .ne 7, 3) := by decide +kernel
theorem dX4_isThere_19 : decode cX4_isThere 19 = .ok (.iconst 1, 1) := by decide +kernel
theorem dX4_isThere_20 : decode cX4_isThere 20 = .ok (.goto 4, 3) := by decide +kernel
theorem dX4_isThere_23 : decode cX4_isThere 23 = .ok (.iconst 0, 1) := by decide +kernel
theorem dX4_isThere_24 : decode cX4_isThere 24 = .ok (.ireturn, 1) := by decide +kernel
theorem dX4_arrive_0 : decode cX4_arrive 0 = .ok (.iload_n 1, 1) := by decide +kernel
theorem dX4_arrive_1 : decode cX4_arrive 1 = .ok (.invokestatic 35, 3) := by decide +kernel
theorem dX4_arrive_4 : decode cX4_arrive 4 = .ok (.ifCond .eq 15, 3) := by decide +kernel
theorem dX4_arrive_7 : decode cX4_arrive 7 = .ok (.aload_n 0, 1) := by decide +kernel
theorem dX4_arrive_8 : decode cX4_arrive 8 = .ok (.dup, 1) := by decide +kernel
theorem dX4_arrive_9 : decode cX4_arrive 9 = .ok (.getfield 31, 3) := by decide +kernel
theorem dX4_arrive_12 : decode cX4_arrive 12 = .ok (.iconst 1, 1) := by decide +kernel
theorem dX4_arrive_13 : decode cX4_arrive 13 = .ok (.iload_n 1, 1) := by decide +kernel
theorem dX4_arrive_14 : decode cX4_arrive 14 = .ok (.ishl, 1) := by decide +kernel
theorem dX4_arrive_15 : decode cX4_arrive 15 = .ok (.ior, 1) := by decide +kernel
theorem dX4_arrive_16 : decode cX4_arrive 16 = .ok (.putfield 31, 3) := by decide +kernel
theorem dX4_arrive_19 : decode cX4_arrive 19 = .ok (.return_, 1) := by decide +kernel
theorem dX4_leave_0 : decode cX4_leave 0 = .ok (.iload_n 1, 1) := by decide +kernel
theorem dX4_leave_1 : decode cX4_leave 1 = .ok (.invokestatic 35, 3) := by decide +kernel
theorem dX4_leave_4 : decode cX4_leave 4 = .ok (.ifCond .eq 25, 3) := by decide +kernel
theorem dX4_leave_7 : decode cX4_leave 7 = .ok (.aload_n 0, 1) := by decide +kernel
theorem dX4_leave_8 : decode cX4_leave 8 = .ok (.dup, 1) := by decide +kernel
theorem dX4_leave_9 : decode cX4_leave 9 = .ok (.getfield 31, 3) := by decide +kernel
theorem dX4_leave_12 : decode cX4_leave 12 = .ok (.iconst 1, 1) := by decide +kernel
theorem dX4_leave_13 : decode cX4_leave 13 = .ok (.iload_n 1, 1) := by decide +kernel
theorem dX4_leave_14 : decode cX4_leave 14 = .ok (.ishl, 1) := by decide +kernel
theorem dX4_leave_15 : decode cX4_leave 15 = .ok (.iconst (-1), 1) := by decide +kernel
theorem dX4_leave_16 : decode cX4_leave 16 = .ok (.ixor, 1) := by decide +kernel
theorem dX4_leave_17 : decode cX4_leave 17 = .ok (.iand, 1) := by decide +kernel
theorem dX4_leave_18 : decode cX4_leave 18 = .ok (.putfield 31, 3) := by decide +kernel
theorem dX4_leave_21 : decode cX4_leave 21 = .ok (.aload_n 0, 1) := by decide +kernel
theorem dX4_leave_22 : decode cX4_leave 22 = .ok (.getfield 15, 3) := by decide +kernel
theorem dX4_leave_25 : decode cX4_leave 25 = .ok (.iload_n 1, 1) := by decide +kernel
theorem dX4_leave_26 : decode cX4_leave 26 = .ok (.bipush 10, 2) := by decide +kernel
theorem dX4_leave_28 : decode cX4_leave 28 = .ok (.iastore, 1) := by decide +kernel
theorem dX4_leave_29 : decode cX4_leave 29 = .ok (.return_, 1) := by decide +kernel
theorem dX4_putUnder_0 : decode cX4_putUnder 0 = .ok (.iload_n 1, 1) := by decide +kernel
theorem dX4_putUnder_1 : decode cX4_putUnder 1 = .ok (.invokestatic 35, 3) := by decide +kernel
theorem dX4_putUnder_4 : decode cX4_putUnder 4 = .ok (.ifCond .eq 10, 3) := by decide +kernel
theorem dX4_putUnder_7 : decode cX4_putUnder 7 = .ok (.aload_n 0, 1) := by decide +kernel
theorem dX4_putUnder_8 : decode cX4_putUnder 8 = .ok (.getfield 15, 3) := by decide +kernel
theorem dX4_putUnder_11 : decode cX4_putUnder 11 = .ok (.iload_n 1, 1) := by decide +kernel
theorem dX4_putUnder_12 : decode cX4_putUnder 12 = .ok (.iload_n 2, 1) := by decide +kernel
theorem dX4_putUnder_13 : decode cX4_putUnder 13 = .ok (.iastore, 1) := by decide +kernel
theorem dX4_putUnder_14 : decode cX4_putUnder 14 = .ok (.return_, 1) := by decide +kernel
theorem dX4_hundredOver_0 : decode cX4_hundredOver 0 = .ok (.iload_n 1, 1) := by decide +kernel
theorem dX4_hundredOver_1 : decode cX4_hundredOver 1 = .ok (.invokestatic 35, 3) := by decide +kernel
theorem dX4_hundredOver_4 : decode cX4_hundredOver 4 = .ok (.ifCond .eq 12, 3) := by decide +kernel
theorem dX4_hundredOver_7 : decode cX4_hundredOver 7 = .ok (.aload_n 0, 1) := by decide +kernel
theorem dX4_hundredOver_8 : decode cX4_hundredOver 8 = .ok (.getfield 15, 3) := by decide +kernel
theorem dX4_hundredOver_11 : decode cX4_hundredOver 11 = .ok (.iload_n 1, 1) := by decide +kernel
theorem dX4_hundredOver_12 : decode cX4_hundredOver 12 = .ok (.iaload, 1) := by decide +kernel
theorem dX4_hundredOver_13 : decode cX4_hundredOver 13 = .ok (.goto 5, 3) := by decide +kernel
theorem dX4_hundredOver_16 : decode cX4_hundredOver 16 = .ok (.bipush 10, 2) := by decide +kernel
theorem dX4_hundredOver_18 : decode cX4_hundredOver 18 = .ok (.ireturn, 1) := by decide +kernel
theorem dX4_give_0 : decode cX4_give 0 = .ok (.iconst 0, 1) := by decide +kernel
theorem dX4_give_1 : decode cX4_give 1 = .ok (.istore 4, 2) := by decide +kernel
theorem dX4_give_3 : decode cX4_give 3 = .ok (.iload 4, 2) := by decide +kernel
theorem dX4_give_5 : decode cX4_give 5 = .ok (.bipush 10, 2) := by decide +kernel
theorem dX4_give_7 : decode cX4_give 7 = .ok (.if_icmp .ge 24, 3) := by decide +kernel
theorem dX4_give_10 : decode cX4_give 10 = .ok (.aload_n 0, 1) := by decide +kernel
theorem dX4_give_11 : decode cX4_give 11 = .ok (.getfield 9, 3) := by decide +kernel
theorem dX4_give_14 : decode cX4_give 14 = .ok (.iload 4, 2) := by decide +kernel
theorem dX4_give_16 : decode cX4_give 16 = .ok (.dup2, 1) := by decide +kernel
theorem dX4_give_17 : decode cX4_give 17 = .ok (.laload, 1) := by decide +kernel
theorem dX4_give_18 : decode cX4_give 18 = .ok (.lload_n 1, 1) := by decide +kernel
theorem dX4_give_19 : decode cX4_give 19 = .ok (.ldc2_w 39, 3) := by decide +kernel
theorem dX4_give_22 : decode cX4_give 22 = .ok (.lxor, 1) := by decide +kernel
theorem dX4_give_23 : decode cX4_give 23 = .ok (.land, 1) := by decide +kernel
theorem dX4_give_24 : decode cX4_give 24 = .ok (.lastore, 1) := by decide +kernel
theorem dX4_give_25 : decode cX4_give 25 = .ok (.iinc 4 1, 3) := by decide +kernel
theorem dX4_give_28 : decode cX4_give 28 = .ok (.goto (-25), 3) := by decide +kernel
theorem dX4_give_31 : decode cX4_give 31 = .ok (.iload_n 3, 1) := by decide +kernel
theorem dX4_give_32 : decode cX4_give 32 = .ok (.invokestatic 35, 3) := by decide +kernel
theorem dX4_give_35 : decode cX4_give 35 = .ok (.ifCond .eq 13, 3) := by decide +kernel
theorem dX4_give_38 : decode cX4_give 38 = .ok (.aload_n 0, 1) := by decide +kernel
theorem dX4_give_39 : decode cX4_give 39 = .ok (.getfield 9, 3) := by decide +kernel
theorem dX4_give_42 : decode cX4_give 42 = .ok (.iload_n 3, 1) := by decide +kernel
theorem dX4_give_43 : decode cX4_give 43 = .ok (.dup2, 1) := by decide +kernel
theorem dX4_give_44 : decode cX4_give 44 = .ok (.laload, 1) := by decide +kernel
theorem dX4_give_45 : decode cX4_give 45 = .ok (.lload_n 1, 1) := by decide +kernel
theorem dX4_give_46 : decode cX4_give 46 = .ok (.lor, 1) := by decide +kernel
theorem dX4_give_47 : decode cX4_give 47 = .ok (.lastore, 1) := by decide +kernel
theorem dX4_give_48 : decode cX4_give 48 = .ok (.return_, 1) := by decide +kernel
theorem dX4_heldBy_0 : decode cX4_heldBy 0 = .ok (.iload_n 1, 1) := by decide +kernel
theorem dX4_heldBy_1 : decode cX4_heldBy 1 = .ok (.invokestatic 35, 3) := by decide +kernel
theorem dX4_heldBy_4 : decode cX4_heldBy 4 = .ok (.ifCond .eq 10, 3) := by decide +kernel
theorem dX4_heldBy_7 : decode cX4_heldBy 7 = .ok (.aload_n 0, 1) := by decide +kernel
theorem dX4_heldBy_8 : decode cX4_heldBy 8 = .ok (.getfield 9, 3) := by decide +kernel
theorem dX4_heldBy_11 : decode cX4_heldBy 11 = .ok (.iload_n 1, 1) := by decide +kernel
theorem dX4_heldBy_12 : decode cX4_heldBy 12 = .ok (.laload, 1) := by decide +kernel
theorem dX4_heldBy_13 : decode cX4_heldBy 13 = .ok (.lreturn, 1) := by decide +kernel
theorem dX4_heldBy_14 : decode cX4_heldBy 14 = .ok (.ldc2_w 43, 3) := by decide +kernel
theorem dX4_heldBy_17 : decode cX4_heldBy 17 = .ok (.lstore_n 2, 1) := by decide +kernel
theorem dX4_heldBy_18 : decode cX4_heldBy 18 = .ok (.iconst 0, 1) := by decide +kernel
theorem dX4_heldBy_19 : decode cX4_heldBy 19 = .ok (.istore 4, 2) := by decide +kernel
theorem dX4_heldBy_21 : decode cX4_heldBy 21 = .ok (.iload 4, 2) := by decide +kernel
theorem dX4_heldBy_23 : decode cX4_heldBy 23 = .ok (.bipush 10, 2) := by decide +kernel
theorem dX4_heldBy_25 : decode cX4_heldBy 25 = .ok (.if_icmp .ge 23, 3) := by decide +kernel
theorem dX4_heldBy_28 : decode cX4_heldBy 28 = .ok (.lload_n 2, 1) := by decide +kernel
theorem dX4_heldBy_29 : decode cX4_heldBy 29 = .ok (.aload_n 0, 1) := by decide +kernel
theorem dX4_heldBy_30 : decode cX4_heldBy 30 = .ok (.getfield 9, 3) := by decide +kernel
theorem dX4_heldBy_33 : decode cX4_heldBy 33 = .ok (.iload 4, 2) := by decide +kernel
theorem dX4_heldBy_35 : decode cX4_heldBy 35 = .ok (.laload, 1) := by decide +kernel
theorem dX4_heldBy_36 : decode cX4_heldBy 36 = .ok (.ldc2_w 39, 3) := by decide +kernel
theorem dX4_heldBy_39 : decode cX4_heldBy 39 = .ok (.lxor, 1) := by decide +kernel
theorem dX4_heldBy_40 : decode cX4_heldBy 40 = .ok (.land, 1) := by decide +kernel
theorem dX4_heldBy_41 : decode cX4_heldBy 41 = .ok (.lstore_n 2, 1) := by decide +kernel
theorem dX4_heldBy_42 : decode cX4_heldBy 42 = .ok (.iinc 4 1, 3) := by decide +kernel
theorem dX4_heldBy_45 : decode cX4_heldBy 45 = .ok (.goto (-24), 3) := by decide +kernel
theorem dX4_heldBy_48 : decode cX4_heldBy 48 = .ok (.lload_n 2, 1) := by decide +kernel
theorem dX4_heldBy_49 : decode cX4_heldBy 49 = .ok (.lreturn, 1) := by decide +kernel
theorem dX4_heldUnder_0 : decode cX4_heldUnder 0 = .ok (.lconst 0, 1) := by decide +kernel
theorem dX4_heldUnder_1 : decode cX4_heldUnder 1 = .ok (.lstore_n 2, 1) := by decide +kernel
theorem dX4_heldUnder_2 : decode cX4_heldUnder 2 = .ok (.iconst 0, 1) := by decide +kernel
theorem dX4_heldUnder_3 : decode cX4_heldUnder 3 = .ok (.istore 4, 2) := by decide +kernel
theorem dX4_heldUnder_5 : decode cX4_heldUnder 5 = .ok (.iload 4, 2) := by decide +kernel
theorem dX4_heldUnder_7 : decode cX4_heldUnder 7 = .ok (.bipush 10, 2) := by decide +kernel
theorem dX4_heldUnder_9 : decode cX4_heldUnder 9 = .ok (.if_icmp .ge 30, 3) := by decide +kernel
theorem dX4_heldUnder_12 : decode cX4_heldUnder 12 = .ok (.aload_n 0, 1) := by decide +kernel
theorem dX4_heldUnder_13 : decode cX4_heldUnder 13 = .ok (.getfield 15, 3) := by decide +kernel
theorem dX4_heldUnder_16 : decode cX4_heldUnder 16 = .ok (.iload 4, 2) := by decide +kernel
theorem dX4_heldUnder_18 : decode cX4_heldUnder 18 = .ok (.iaload, 1) := by decide +kernel
theorem dX4_heldUnder_19 : decode cX4_heldUnder 19 = .ok (.iload_n 1, 1) := by decide +kernel
theorem dX4_heldUnder_20 : decode cX4_heldUnder 20 = .ok (.if_icmp .ne 13, 3) := by decide +kernel
theorem dX4_heldUnder_23 : decode cX4_heldUnder 23 = .ok (.lload_n 2, 1) := by decide +kernel
theorem dX4_heldUnder_24 : decode cX4_heldUnder 24 = .ok (.aload_n 0, 1) := by decide +kernel
theorem dX4_heldUnder_25 : decode cX4_heldUnder 25 = .ok (.getfield 9, 3) := by decide +kernel
theorem dX4_heldUnder_28 : decode cX4_heldUnder 28 = .ok (.iload 4, 2) := by decide +kernel
theorem dX4_heldUnder_30 : decode cX4_heldUnder 30 = .ok (.laload, 1) := by decide +kernel
theorem dX4_heldUnder_31 : decode cX4_heldUnder 31 = .ok (.lor, 1) := by decide +kernel
theorem dX4_heldUnder_32 : decode cX4_heldUnder 32 = .ok (.lstore_n 2, 1) := by decide +kernel
theorem dX4_heldUnder_33 : decode cX4_heldUnder 33 = .ok (.iinc 4 1, 3) := by decide +kernel
theorem dX4_heldUnder_36 : decode cX4_heldUnder 36 = .ok (.goto (-31), 3) := by decide +kernel
theorem dX4_heldUnder_39 : decode cX4_heldUnder 39 = .ok (.lload_n 2, 1) := by decide +kernel
theorem dX4_heldUnder_40 : decode cX4_heldUnder 40 = .ok (.lreturn, 1) := by decide +kernel
theorem dX4_holderOf_0 : decode cX4_holderOf 0 = .ok (.iconst 0, 1) := by decide +kernel
theorem dX4_holderOf_1 : decode cX4_holderOf 1 = .ok (.istore_n 2, 1) := by decide +kernel
theorem dX4_holderOf_2 : decode cX4_holderOf 2 = .ok (.iload_n 2, 1) := by decide +kernel
theorem dX4_holderOf_3 : decode cX4_holderOf 3 = .ok (.bipush 10, 2) := by decide +kernel
theorem dX4_holderOf_5 : decode cX4_holderOf 5 = .ok (.if_icmp .ge 24, 3) := by decide +kernel
theorem dX4_holderOf_8 : decode cX4_holderOf 8 = .ok (.aload_n 0, 1) := by decide +kernel
theorem dX4_holderOf_9 : decode cX4_holderOf 9 = .ok (.getfield 9, 3) := by decide +kernel
theorem dX4_holderOf_12 : decode cX4_holderOf 12 = .ok (.iload_n 2, 1) := by decide +kernel
theorem dX4_holderOf_13 : decode cX4_holderOf 13 = .ok (.laload, 1) := by decide +kernel
theorem dX4_holderOf_14 : decode cX4_holderOf 14 = .ok (.iload_n 1, 1) := by decide +kernel
theorem dX4_holderOf_15 : decode cX4_holderOf 15 = .ok (.invokestatic 45, 3) := by decide +kernel
theorem dX4_holderOf_18 : decode cX4_holderOf 18 = .ok (.ifCond .eq 5, 3) := by decide +kernel
theorem dX4_holderOf_21 : decode cX4_holderOf 21 = .ok (.iload_n 2, 1) := by decide +kernel
theorem dX4_holderOf_22 : decode cX4_holderOf 22 = .ok (.ireturn, 1) := by decide +kernel
theorem dX4_holderOf_23 : decode cX4_holderOf 23 = .ok (.iinc 2 1, 3) := by decide +kernel
theorem dX4_holderOf_26 : decode cX4_holderOf 26 = .ok (.goto (-24), 3) := by decide +kernel
theorem dX4_holderOf_29 : decode cX4_holderOf 29 = .ok (.bipush 10, 2) := by decide +kernel
theorem dX4_holderOf_31 : decode cX4_holderOf 31 = .ok (.ireturn, 1) := by decide +kernel
theorem dX4_hasBorder_0 : decode cX4_hasBorder 0 = .ok (.aload_n 0, 1) := by decide +kernel
theorem dX4_hasBorder_1 : decode cX4_hasBorder 1 = .ok (.iload_n 1, 1) := by decide +kernel
theorem dX4_hasBorder_2 : decode cX4_hasBorder 2 = .ok (.invokevirtual 49, 3) := by decide +kernel
theorem dX4_hasBorder_5 : decode cX4_hasBorder 5 = .ok (.aload_n 0, 1) := by decide +kernel
theorem dX4_hasBorder_6 : decode cX4_hasBorder 6 = .ok (.iload_n 2, 1) := by decide +kernel
theorem dX4_hasBorder_7 : decode cX4_hasBorder 7 = .ok (.invokevirtual 49, 3) := by decide +kernel
theorem dX4_hasBorder_10 : decode cX4_hasBorder 10 = .ok (.if_icmp .eq 7, 3) := by decide +kernel
theorem dX4_hasBorder_13 : decode cX4_hasBorder 13 = .ok (.iconst 1, 1) := by decide +kernel
theorem dX4_hasBorder_14 : decode cX4_hasBorder 14 = .ok (.goto 4, 3) := by decide +kernel
theorem dX4_hasBorder_17 : decode cX4_hasBorder 17 = .ok (.iconst 0, 1) := by decide +kernel
theorem dX4_hasBorder_18 : decode cX4_hasBorder 18 = .ok (.ireturn, 1) := by decide +kernel
theorem dX4_borderPairs_0 : decode cX4_borderPairs 0 = .ok (.iconst 0, 1) := by decide +kernel
theorem dX4_borderPairs_1 : decode cX4_borderPairs 1 = .ok (.istore_n 1, 1) := by decide +kernel
theorem dX4_borderPairs_2 : decode cX4_borderPairs 2 = .ok (.iconst 0, 1) := by decide +kernel
theorem dX4_borderPairs_3 : decode cX4_borderPairs 3 = .ok (.istore_n 2, 1) := by decide +kernel
theorem dX4_borderPairs_4 : decode cX4_borderPairs 4 = .ok (.iload_n 2, 1) := by decide +kernel
theorem dX4_borderPairs_5 : decode cX4_borderPairs 5 = .ok (.bipush 11, 2) := by decide +kernel
theorem dX4_borderPairs_7 : decode cX4_borderPairs 7 = .ok (.if_icmp .ge 20, 3) := by decide +kernel
theorem dX4_borderPairs_10 : decode cX4_borderPairs 10 = .ok (.iload_n 1, 1) := by decide +kernel
theorem dX4_borderPairs_11 : decode cX4_borderPairs 11 = .ok (.aload_n 0, 1) := by decide +kernel
theorem dX4_borderPairs_12 : decode cX4_borderPairs 12 = .ok (.iload_n 2, 1) := by decide +kernel
theorem dX4_borderPairs_13 : decode cX4_borderPairs 13 = .ok (.invokevirtual 53, 3) := by decide +kernel
theorem dX4_borderPairs_16 : decode cX4_borderPairs 16 = .ok (.invokestatic 57, 3) := by decide +kernel
theorem dX4_borderPairs_19 : decode cX4_borderPairs 19 = .ok (.iadd, 1) := by decide +kernel
theorem dX4_borderPairs_20 : decode cX4_borderPairs 20 = .ok (.istore_n 1, 1) := by decide +kernel
theorem dX4_borderPairs_21 : decode cX4_borderPairs 21 = .ok (.iinc 2 1, 3) := by decide +kernel
theorem dX4_borderPairs_24 : decode cX4_borderPairs 24 = .ok (.goto (-20), 3) := by decide +kernel
theorem dX4_borderPairs_27 : decode cX4_borderPairs 27 = .ok (.bipush 60, 2) := by decide +kernel
theorem dX4_borderPairs_29 : decode cX4_borderPairs 29 = .ok (.iload_n 1, 1) := by decide +kernel
theorem dX4_borderPairs_30 : decode cX4_borderPairs 30 = .ok (.isub, 1) := by decide +kernel
theorem dX4_borderPairs_31 : decode cX4_borderPairs 31 = .ok (.ireturn, 1) := by decide +kernel
theorem dX4_isSlot_0 : decode cX4_isSlot 0 = .ok (.iload_n 0, 1) := by decide +kernel
theorem dX4_isSlot_1 : decode cX4_isSlot 1 = .ok (.ifCond .lt 13, 3) := by decide +kernel
theorem dX4_isSlot_4 : decode cX4_isSlot 4 = .ok (.iload_n 0, 1) := by decide +kernel
theorem dX4_isSlot_5 : decode cX4_isSlot 5 = .ok (.bipush 10, 2) := by decide +kernel
theorem dX4_isSlot_7 : decode cX4_isSlot 7 = .ok (.if_icmp .ge 7, 3) := by decide +kernel
theorem dX4_isSlot_10 : decode cX4_isSlot 10 = .ok (.iconst 1, 1) := by decide +kernel
theorem dX4_isSlot_11 : decode cX4_isSlot 11 = .ok (.goto 4, 3) := by decide +kernel
theorem dX4_isSlot_14 : decode cX4_isSlot 14 = .ok (.iconst 0, 1) := by decide +kernel
theorem dX4_isSlot_15 : decode cX4_isSlot 15 = .ok (.ireturn, 1) := by decide +kernel
theorem dX5_init_0 : decode cX5_init 0 = .ok (.aload_n 0, 1) := by decide +kernel
theorem dX5_init_1 : decode cX5_init 1 = .ok (.invokespecial 3, 3) := by decide +kernel
theorem dX5_init_4 : decode cX5_init 4 = .ok (.aload_n 0, 1) := by decide +kernel
theorem dX5_init_5 : decode cX5_init 5 = .ok (.bipush 36, 2) := by decide +kernel
theorem dX5_init_7 : decode cX5_init 7 = .ok (.newarray .int, 2) := by decide +kernel
theorem dX5_init_9 : decode cX5_init 9 = .ok (.putfield 9, 3) := by decide +kernel
theorem dX5_init_12 : decode cX5_init 12 = .ok (.return_, 1) := by decide +kernel
theorem dX5_renew_0 : decode cX5_renew 0 = .ok (.aload_n 0, 1) := by decide +kernel
theorem dX5_renew_1 : decode cX5_renew 1 = .ok (.iload_n 1, 1) := by decide +kernel
theorem dX5_renew_2 : decode cX5_renew 2 = .ok (.putfield 15, 3) := by decide +kernel
theorem dX5_renew_5 : decode cX5_renew 5 = .ok (.aload_n 0, 1) := by decide +kernel
theorem dX5_renew_6 : decode cX5_renew 6 = .ok (.iload_n 1, 1) := by decide +kernel
theorem dX5_renew_7 : decode cX5_renew 7 = .ok (.ifCond .ne 7, 3) := by decide +kernel
theorem dX5_renew_10 : decode cX5_renew 10 = .ok (.iconst 0, 1) := by decide +kernel
theorem dX5_renew_11 : decode cX5_renew 11 = .ok (.goto 4, 3) := by decide +kernel
theorem dX5_renew_14 : decode cX5_renew 14 = .ok (.iload_n 2, 1) := by decide +kernel
theorem dX5_renew_15 : decode cX5_renew 15 = .ok (.putfield 19, 3) := by decide +kernel
theorem dX5_renew_18 : decode cX5_renew 18 = .ok (.aload_n 0, 1) := by decide +kernel
theorem dX5_renew_19 : decode cX5_renew 19 = .ok (.getfield 9, 3) := by decide +kernel
theorem dX5_renew_22 : decode cX5_renew 22 = .ok (.iconst 0, 1) := by decide +kernel
theorem dX5_renew_23 : decode cX5_renew 23 = .ok (.invokestatic 22, 3) := by decide +kernel
theorem dX5_renew_26 : decode cX5_renew 26 = .ok (.aload_n 0, 1) := by decide +kernel
theorem dX5_renew_27 : decode cX5_renew 27 = .ok (.getfield 19, 3) := by decide +kernel
theorem dX5_renew_30 : decode cX5_renew 30 = .ok (.ireturn, 1) := by decide +kernel
theorem dX5_isMissing_0 : decode cX5_isMissing 0 = .ok (.aload_n 0, 1) := by decide +kernel
theorem dX5_isMissing_1 : decode cX5_isMissing 1 = .ok (.getfield 15, 3) := by decide +kernel
theorem dX5_isMissing_4 : decode cX5_isMissing 4 = .ok (.ifCond .ne 7, 3) := by decide +kernel
theorem dX5_isMissing_7 : decode cX5_isMissing 7 = .ok (.iconst 1, 1) := by decide +kernel
theorem dX5_isMissing_8 : decode cX5_isMissing 8 = .ok (.goto 4, 3) := by decide +kernel
theorem dX5_isMissing_11 : decode cX5_isMissing 11 = .ok (.iconst 0, 1) := by decide +kernel
theorem dX5_isMissing_12 : decode cX5_isMissing 12 = .ok (.ireturn, 1) := by decide +kernel
theorem dX5_hasRun_0 : decode cX5_hasRun 0 = .ok (.iload_n 1, 1) := by decide +kernel
theorem dX5_hasRun_1 : decode cX5_hasRun 1 = .ok (.ifCond .lt 29, 3) := by decide +kernel
theorem dX5_hasRun_4 : decode cX5_hasRun 4 = .ok (.iload_n 2, 1) := by decide +kernel
theorem dX5_hasRun_5 : decode cX5_hasRun 5 = .ok (.ifCond .lt 25, 3) := by decide +kernel
theorem dX5_hasRun_8 : decode cX5_hasRun 8 = .ok (.iload_n 2, 1) := by decide +kernel
theorem dX5_hasRun_9 : decode cX5_hasRun 9 = .ok (.aload_n 0, 1) := by decide +kernel
theorem dX5_hasRun_10 : decode cX5_hasRun 10 = .ok (.getfield 19, 3) := by decide +kernel
theorem dX5_hasRun_13 : decode cX5_hasRun 13 = .ok (.if_icmp .gt 17, 3) := by decide +kernel
theorem dX5_hasRun_16 : decode cX5_hasRun 16 = .ok (.iload_n 1, 1) := by decide +kernel
theorem dX5_hasRun_17 : decode cX5_hasRun 17 = .ok (.aload_n 0, 1) := by decide +kernel
theorem dX5_hasRun_18 : decode cX5_hasRun 18 = .ok (.getfield 19, 3) := by decide +kernel
theorem dX5_hasRun_21 : decode cX5_hasRun 21 = .ok (.iload_n 2, 1) := by decide +kernel
theorem dX5_hasRun_22 : decode cX5_hasRun 22 = .ok (.isub, 1) := by decide +kernel
theorem dX5_hasRun_23 : decode cX5_hasRun 23 = .ok (.if_icmp .gt 7, 3) := by decide +kernel
theorem dX5_hasRun_26 : decode cX5_hasRun 26 = .ok (.iconst 1, 1) := by decide +kernel
theorem dX5_hasRun_27 : decode cX5_hasRun 27 = .ok (.goto 4, 3) := by decide +kernel
theorem dX5_hasRun_30 : decode cX5_hasRun 30 = .ok (.iconst 0, 1) := by decide +kernel
theorem dX5_hasRun_31 : decode cX5_hasRun 31 = .ok (.ireturn, 1) := by decide +kernel
theorem dX5_lowestBits_0 : decode cX5_lowestBits 0 = .ok (.aload_n 0, 1) := by decide +kernel
theorem dX5_lowestBits_1 : decode cX5_lowestBits 1 = .ok (.getfield 15, 3) := by decide +kernel
theorem dX5_lowestBits_4 : decode cX5_lowestBits 4 = .ok (.bipush 32, 2) := by decide +kernel
theorem dX5_lowestBits_6 : decode cX5_lowestBits 6 = .ok (.if_icmp .ne 7, 3) := by decide +kernel
theorem dX5_lowestBits_9 : decode cX5_lowestBits 9 = .ok (.iload_n 1, 1) := by decide +kernel
theorem dX5_lowestBits_10 : decode cX5_lowestBits 10 = .ok (.goto 13, 3) := by decide +kernel
theorem dX5_lowestBits_13 : decode cX5_lowestBits 13 = .ok (.iload_n 1, 1) := by decide +kernel
theorem dX5_lowestBits_14 : decode cX5_lowestBits 14 = .ok (.iconst 1, 1) := by decide +kernel
theorem dX5_lowestBits_15 : decode cX5_lowestBits 15 = .ok (.aload_n 0, 1) := by decide +kernel
theorem dX5_lowestBits_16 : decode cX5_lowestBits 16 = .ok (.getfield 15, 3) := by decide +kernel
theorem dX5_lowestBits_19 : decode cX5_lowestBits 19 = .ok (.ishl, 1) := by decide +kernel
theorem dX5_lowestBits_20 : decode cX5_lowestBits 20 = .ok (.iconst 1, 1) := by decide +kernel
theorem dX5_lowestBits_21 : decode cX5_lowestBits 21 = .ok (.isub, 1) := by decide +kernel
theorem dX5_lowestBits_22 : decode cX5_lowestBits 22 = .ok (.iand, 1) := by decide +kernel
theorem dX5_lowestBits_23 : decode cX5_lowestBits 23 = .ok (.ireturn, 1) := by decide +kernel
theorem dX6_init_0 : decode cX6_init 0 = .ok (.aload_n 0, 1) := by decide +kernel
theorem dX6_init_1 : decode cX6_init 1 = .ok (.invokespecial 3, 3) := by decide +kernel
theorem dX6_init_4 : decode cX6_init 4 = .ok (.aload_n 0, 1) := by decide +kernel
theorem dX6_init_5 : decode cX6_init 5 = .ok (.bipush 20, 2) := by decide +kernel
theorem dX6_init_7 : decode cX6_init 7 = .ok (.newarray .int, 2) := by decide +kernel
theorem dX6_init_9 : decode cX6_init 9 = .ok (.putfield 9, 3) := by decide +kernel
theorem dX6_init_12 : decode cX6_init 12 = .ok (.aload_n 0, 1) := by decide +kernel
theorem dX6_init_13 : decode cX6_init 13 = .ok (.bipush 20, 2) := by decide +kernel
theorem dX6_init_15 : decode cX6_init 15 = .ok (.newarray .int, 2) := by decide +kernel
theorem dX6_init_17 : decode cX6_init 17 = .ok (.putfield 15, 3) := by decide +kernel
theorem dX6_init_20 : decode cX6_init 20 = .ok (.aload_n 0, 1) := by decide +kernel
theorem dX6_init_21 : decode cX6_init 21 = .ok (.bipush 20, 2) := by decide +kernel
theorem dX6_init_23 : decode cX6_init 23 = .ok (.newarray .int, 2) := by decide +kernel
theorem dX6_init_25 : decode cX6_init 25 = .ok (.putfield 18, 3) := by decide +kernel
theorem dX6_init_28 : decode cX6_init 28 = .ok (.return_, 1) := by decide +kernel
theorem dX6_isFull_0 : decode cX6_isFull 0 = .ok (.aload_n 0, 1) := by decide +kernel
theorem dX6_isFull_1 : decode cX6_isFull 1 = .ok (.getfield 21, 3) := by decide +kernel
theorem dX6_isFull_4 : decode cX6_isFull 4 = .ok (.bipush 20, 2) := by decide +kernel
theorem dX6_isFull_6 : decode cX6_isFull 6 = .ok (.if_icmp .lt 7, 3) := by decide +kernel
theorem dX6_isFull_9 : decode cX6_isFull 9 = .ok (.iconst 1, 1) := by decide +kernel
theorem dX6_isFull_10 : decode cX6_isFull 10 = .ok (.goto 4, 3) := by decide +kernel
theorem dX6_isFull_13 : decode cX6_isFull 13 = .ok (.iconst 0, 1) := by decide +kernel
theorem dX6_isFull_14 : decode cX6_isFull 14 = .ok (.ireturn, 1) := by decide +kernel
theorem dX6_add_0 : decode cX6_add 0 = .ok (.aload_n 0, 1) := by decide +kernel
theorem dX6_add_1 : decode cX6_add 1 = .ok (.invokevirtual 25, 3) := by decide +kernel
theorem dX6_add_4 : decode cX6_add 4 = .ok (.ifCond .ne 43, 3) := by decide +kernel
theorem dX6_add_7 : decode cX6_add 7 = .ok (.aload_n 0, 1) := by decide +kernel
theorem dX6_add_8 : decode cX6_add 8 = .ok (.getfield 9, 3) := by decide +kernel
theorem dX6_add_11 : decode cX6_add 11 = .ok (.aload_n 0, 1) := by decide +kernel
theorem dX6_add_12 : decode cX6_add 12 = .ok (.getfield 21, 3) := by decide +kernel
theorem dX6_add_15 : decode cX6_add 15 = .ok (.iload_n 1, 1) := by decide +kernel
theorem dX6_add_16 : decode cX6_add 16 = .ok (.iastore, 1) := by decide +kernel
theorem dX6_add_17 : decode cX6_add 17 = .ok (.aload_n 0, 1) := by decide +kernel
theorem dX6_add_18 : decode cX6_add 18 = .ok (.getfield 15, 3) := by decide +kernel
theorem dX6_add_21 : decode cX6_add 21 = .ok (.aload_n 0, 1) := by decide +kernel
theorem dX6_add_22 : decode cX6_add 22 = .ok (.getfield 21, 3) := by decide +kernel
theorem dX6_add_25 : decode cX6_add 25 = .ok (.iload_n 2, 1) := by decide +kernel
theorem dX6_add_26 : decode cX6_add 26 = .ok (.iastore, 1) := by decide +kernel
theorem dX6_add_27 : decode cX6_add 27 = .ok (.aload_n 0, 1) := by decide +kernel
theorem dX6_add_28 : decode cX6_add 28 = .ok (.getfield 18, 3) := by decide +kernel
theorem dX6_add_31 : decode cX6_add 31 = .ok (.aload_n 0, 1) := by decide +kernel
theorem dX6_add_32 : decode cX6_add 32 = .ok (.getfield 21, 3) := by decide +kernel
theorem dX6_add_35 : decode cX6_add 35 = .ok (.iload_n 3, 1) := by decide +kernel
theorem dX6_add_36 : decode cX6_add 36 = .ok (.iastore, 1) := by decide +kernel
theorem dX6_add_37 : decode cX6_add 37 = .ok (.aload_n 0, 1) := by decide +kernel
theorem dX6_add_38 : decode cX6_add 38 = .ok (.dup, 1) := by decide +kernel
theorem dX6_add_39 : decode cX6_add 39 = .ok (.getfield 21, 3) := by decide +kernel
theorem dX6_add_42 : decode cX6_add 42 = .ok (.iconst 1, 1) := by decide +kernel
theorem dX6_add_43 : decode cX6_add 43 = .ok (.iadd, 1) := by decide +kernel
theorem dX6_add_44 : decode cX6_add 44 = .ok (.putfield 21, 3) := by decide +kernel
theorem dX6_add_47 : decode cX6_add 47 = .ok (.aload_n 0, 1) := by decide +kernel
theorem dX6_add_48 : decode cX6_add 48 = .ok (.getfield 21, 3) := by decide +kernel
theorem dX6_add_51 : decode cX6_add 51 = .ok (.ireturn, 1) := by decide +kernel
theorem dX6_standsFor_0 : decode cX6_standsFor 0 = .ok (.aload_n 0, 1) := by decide +kernel
theorem dX6_standsFor_1 : decode cX6_standsFor 1 = .ok (.getfield 15, 3) := by decide +kernel
theorem dX6_standsFor_4 : decode cX6_standsFor 4 = .ok (.iload_n 1, 1) := by decide +kernel
theorem dX6_standsFor_5 : decode cX6_standsFor 5 = .ok (.iaload, 1) := by decide +kernel
theorem dX6_standsFor_6 : decode cX6_standsFor 6 = .ok (.iload_n 2, 1) := by decide +kernel
theorem dX6_standsFor_7 : decode cX6_standsFor 7 = .ok (.if_icmp .eq 5, 3) := by decide +kernel
theorem dX6_standsFor_10 : decode cX6_standsFor 10 = .ok (.iconst 0, 1) := by decide +kernel
theorem dX6_standsFor_11 : decode cX6_standsFor 11 = .ok (.ireturn, 1) := by decide +kernel
theorem dX6_standsFor_12 : decode cX6_standsFor 12 = .ok (.iload_n 1, 1) := by decide +kernel
theorem dX6_standsFor_13 : decode cX6_standsFor 13 = .ok (.iconst 1, 1) := by decide +kernel
theorem dX6_standsFor_14 : decode cX6_standsFor 14 = .ok (.iadd, 1) := by decide +kernel
theorem dX6_standsFor_15 : decode cX6_standsFor 15 = .ok (.istore_n 3, 1) := by decide +kernel
theorem dX6_standsFor_16 : decode cX6_standsFor 16 = .ok (.iload_n 3, 1) := by decide +kernel
theorem dX6_standsFor_17 : decode cX6_standsFor 17 = .ok (.aload_n 0, 1) := by decide +kernel
theorem dX6_standsFor_18 : decode cX6_standsFor 18 = .ok (.getfield 21, 3) := by decide +kernel
theorem dX6_standsFor_21 : decode cX6_standsFor 21 = .ok (.if_icmp .ge 36, 3) := by decide +kernel
theorem dX6_standsFor_24 : decode cX6_standsFor 24 = .ok (.aload_n 0, 1) := by decide +kernel
theorem dX6_standsFor_25 : decode cX6_standsFor 25 = .ok (.getfield 15, 3) := by decide +kernel
theorem dX6_standsFor_28 : decode cX6_standsFor 28 = .ok (.iload_n 3, 1) := by decide +kernel
theorem dX6_standsFor_29 : decode cX6_standsFor 29 = .ok (.iaload, 1) := by decide +kernel
theorem dX6_standsFor_30 : decode cX6_standsFor 30 = .ok (.iload_n 2, 1) := by decide +kernel
theorem dX6_standsFor_31 : decode cX6_standsFor 31 = .ok (.if_icmp .ne 20, 3) := by decide +kernel
theorem dX6_standsFor_34 : decode cX6_standsFor 34 = .ok (.aload_n 0, 1) := by decide +kernel
theorem dX6_standsFor_35 : decode cX6_standsFor 35 = .ok (.getfield 9, 3) := by decide +kernel
theorem dX6_standsFor_38 : decode cX6_standsFor 38 = .ok (.iload_n 3, 1) := by decide +kernel
theorem dX6_standsFor_39 : decode cX6_standsFor 39 = .ok (.iaload, 1) := by decide +kernel
theorem dX6_standsFor_40 : decode cX6_standsFor 40 = .ok (.aload_n 0, 1) := by decide +kernel
theorem dX6_standsFor_41 : decode cX6_standsFor 41 = .ok (.getfield 9, 3) := by decide +kernel
theorem dX6_standsFor_44 : decode cX6_standsFor 44 = .ok (.iload_n 1, 1) := by decide +kernel
theorem dX6_standsFor_45 : decode cX6_standsFor 45 = .ok (.iaload, 1) := by decide +kernel
theorem dX6_standsFor_46 : decode cX6_standsFor 46 = .ok (.if_icmp .ne 5, 3) := by decide +kernel
theorem dX6_standsFor_49 : decode cX6_standsFor 49 = .ok (.iconst 0, 1) := by decide +kernel
theorem dX6_standsFor_50 : decode cX6_standsFor 50 = .ok (.ireturn, 1) := by decide +kernel
theorem dX6_standsFor_51 : decode cX6_standsFor 51 = .ok (.iinc 3 1, 3) := by decide +kernel
theorem dX6_standsFor_54 : decode cX6_standsFor 54 = .ok (.goto (-38), 3) := by decide +kernel
theorem dX6_standsFor_57 : decode cX6_standsFor 57 = .ok (.iconst 1, 1) := by decide +kernel
theorem dX6_standsFor_58 : decode cX6_standsFor 58 = .ok (.ireturn, 1) := by decide +kernel
theorem dX6_sum_0 : decode cX6_sum 0 = .ok (.lconst 0, 1) := by decide +kernel
theorem dX6_sum_1 : decode cX6_sum 1 = .ok (.lstore_n 2, 1) := by decide +kernel
theorem dX6_sum_2 : decode cX6_sum 2 = .ok (.iconst 0, 1) := by decide +kernel
theorem dX6_sum_3 : decode cX6_sum 3 = .ok (.istore 4, 2) := by decide +kernel
theorem dX6_sum_5 : decode cX6_sum 5 = .ok (.iload 4, 2) := by decide +kernel
theorem dX6_sum_7 : decode cX6_sum 7 = .ok (.aload_n 0, 1) := by decide +kernel
theorem dX6_sum_8 : decode cX6_sum 8 = .ok (.getfield 21, 3) := by decide +kernel
theorem dX6_sum_11 : decode cX6_sum 11 = .ok (.if_icmp .ge 30, 3) := by decide +kernel
theorem dX6_sum_14 : decode cX6_sum 14 = .ok (.aload_n 0, 1) := by decide +kernel
theorem dX6_sum_15 : decode cX6_sum 15 = .ok (.iload 4, 2) := by decide +kernel
theorem dX6_sum_17 : decode cX6_sum 17 = .ok (.iload_n 1, 1) := by decide +kernel
theorem dX6_sum_18 : decode cX6_sum 18 = .ok (.invokevirtual 29, 3) := by decide +kernel
theorem dX6_sum_21 : decode cX6_sum 21 = .ok (.ifCond .eq 14, 3) := by decide +kernel
theorem dX6_sum_24 : decode cX6_sum 24 = .ok (.lload_n 2, 1) := by decide +kernel
theorem dX6_sum_25 : decode cX6_sum 25 = .ok (.aload_n 0, 1) := by decide +kernel
theorem dX6_sum_26 : decode cX6_sum 26 = .ok (.getfield 18, 3) := by decide +kernel
theorem dX6_sum_29 : decode cX6_sum 29 = .ok (.iload 4, 2) := by decide +kernel
theorem dX6_sum_31 : decode cX6_sum 31 = .ok (.iaload, 1) := by decide +kernel
theorem dX6_sum_32 : decode cX6_sum 32 = .ok (.i2l, 1) := by decide +kernel
theorem dX6_sum_33 : decode cX6_sum 33 = .ok (.ladd, 1) := by decide +kernel
theorem dX6_sum_34 : decode cX6_sum 34 = .ok (.lstore_n 2, 1) := by decide +kernel
theorem dX6_sum_35 : decode cX6_sum 35 = .ok (.iinc 4 1, 3) := by decide +kernel
theorem dX6_sum_38 : decode cX6_sum 38 = .ok (.goto (-33), 3) := by decide +kernel
theorem dX6_sum_41 : decode cX6_sum 41 = .ok (.lload_n 2, 1) := by decide +kernel
theorem dX6_sum_42 : decode cX6_sum 42 = .ok (.lreturn, 1) := by decide +kernel
theorem dX6_share_0 : decode cX6_share 0 = .ok (.lconst 0, 1) := by decide +kernel
theorem dX6_share_1 : decode cX6_share 1 = .ok (.lstore 6, 2) := by decide +kernel
theorem dX6_share_3 : decode cX6_share 3 = .ok (.lconst 1, 1) := by decide +kernel
theorem dX6_share_4 : decode cX6_share 4 = .ok (.lstore 8, 2) := by decide +kernel
theorem dX6_share_6 : decode cX6_share 6 = .ok (.iconst 0, 1) := by decide +kernel
theorem dX6_share_7 : decode cX6_share 7 = .ok (.istore 10, 2) := by decide +kernel
theorem dX6_share_9 : decode cX6_share 9 = .ok (.iload 10, 2) := by decide +kernel
theorem dX6_share_11 : decode cX6_share 11 = .ok (.aload_n 0, 1) := by decide +kernel
theorem dX6_share_12 : decode cX6_share 12 = .ok (.getfield 21, 3) := by decide +kernel
theorem dX6_share_15 : decode cX6_share 15 = .ok (.if_icmp .ge 112, 3) := by decide +kernel
theorem dX6_share_18 : decode cX6_share 18 = .ok (.aload_n 2, 1) := by decide +kernel
theorem dX6_share_19 : decode cX6_share 19 = .ok (.aload_n 0, 1) := by decide +kernel
theorem dX6_share_20 : decode cX6_share 20 = .ok (.getfield 9, 3) := by decide +kernel
theorem dX6_share_23 : decode cX6_share 23 = .ok (.iload 10, 2) := by decide +kernel
theorem dX6_share_25 : decode cX6_share 25 = .ok (.iaload, 1) := by decide +kernel
theorem dX6_share_26 : decode cX6_share 26 = .ok (.invokevirtual 33, 3) := by decide +kernel
theorem dX6_share_29 : decode cX6_share 29 = .ok (.lstore 11, 2) := by decide +kernel
theorem dX6_share_31 : decode cX6_share 31 = .ok (.lload 11, 2) := by decide +kernel
theorem dX6_share_33 : decode cX6_share 33 = .ok (.lconst 0, 1) := by decide +kernel
theorem dX6_share_34 : decode cX6_share 34 = .ok (.lcmp, 1) := by decide +kernel
theorem dX6_share_35 : decode cX6_share 35 = .ok (.ifCond .eq 86, 3) := by decide +kernel
theorem dX6_share_38 : decode cX6_share 38 = .ok (.aload_n 0, 1) := by decide +kernel
theorem dX6_share_39 : decode cX6_share 39 = .ok (.iload 10, 2) := by decide +kernel
theorem dX6_share_41 : decode cX6_share 41 = .ok (.iload_n 1, 1) := by decide +kernel
theorem dX6_share_42 : decode cX6_share 42 = .ok (.invokevirtual 29, 3) := by decide +kernel
theorem dX6_share_45 : decode cX6_share 45 = .ok (.ifCond .eq 76, 3) := by decide +kernel
theorem dX6_share_48 : decode cX6_share 48 = .ok (.lload 11, 2) := by decide +kernel
theorem dX6_share_50 : decode cX6_share 50 = .ok (.invokestatic 39, 3) := by decide +kernel
theorem dX6_share_53 : decode cX6_share 53 = .ok (.i2l, 1) := by decide +kernel
theorem dX6_share_54 : decode cX6_share 54 = .ok (.lstore 13, 2) := by decide +kernel
theorem dX6_share_56 : decode cX6_share 56 = .ok (.lload 6, 2) := by decide +kernel
theorem dX6_share_58 : decode cX6_share 58 = .ok (.lload 13, 2) := by decide +kernel
theorem dX6_share_60 : decode cX6_share 60 = .ok (.lmul, 1) := by decide +kernel
theorem dX6_share_61 : decode cX6_share 61 = .ok (.aload_n 0, 1) := by decide +kernel
theorem dX6_share_62 : decode cX6_share 62 = .ok (.getfield 18, 3) := by decide +kernel
theorem dX6_share_65 : decode cX6_share 65 = .ok (.iload 10, 2) := by decide +kernel
theorem dX6_share_67 : decode cX6_share 67 = .ok (.iaload, 1) := by decide +kernel
theorem dX6_share_68 : decode cX6_share 68 = .ok (.i2l, 1) := by decide +kernel
theorem dX6_share_69 : decode cX6_share 69 = .ok (.lload 8, 2) := by decide +kernel
theorem dX6_share_71 : decode cX6_share 71 = .ok (.lmul, 1) := by decide +kernel
theorem dX6_share_72 : decode cX6_share 72 = .ok (.lload 11, 2) := by decide +kernel
theorem dX6_share_74 : decode cX6_share 74 = .ok (.lload_n 3, 1) := by decide +kernel
theorem dX6_share_75 : decode cX6_share 75 = .ok (.land, 1) := by decide +kernel
theorem dX6_share_76 : decode cX6_share 76 = .ok (.invokestatic 39, 3) := by decide +kernel
theorem dX6_share_79 : decode cX6_share 79 = .ok (.i2l, 1) := by decide +kernel
theorem dX6_share_80 : decode cX6_share 80 = .ok (.lmul, 1) := by decide +kernel
theorem dX6_share_81 : decode cX6_share 81 = .ok (.ladd, 1) := by decide +kernel
theorem dX6_share_82 : decode cX6_share 82 = .ok (.lstore 6, 2) := by decide +kernel
theorem dX6_share_84 : decode cX6_share 84 = .ok (.lload 8, 2) := by decide +kernel
theorem dX6_share_86 : decode cX6_share 86 = .ok (.lload 13, 2) := by decide +kernel
theorem dX6_share_88 : decode cX6_share 88 = .ok (.lmul, 1) := by decide +kernel
theorem dX6_share_89 : decode cX6_share 89 = .ok (.lstore 8, 2) := by decide +kernel
theorem dX6_share_91 : decode cX6_share 91 = .ok (.lload 6, 2) := by decide +kernel
theorem dX6_share_93 : decode cX6_share 93 = .ok (.lload 8, 2) := by decide +kernel
theorem dX6_share_95 : decode cX6_share 95 = .ok (.invokestatic 45, 3) := by decide +kernel
theorem dX6_share_98 : decode cX6_share 98 = .ok (.lstore 15, 2) := by decide +kernel
theorem dX6_share_100 : decode cX6_share 100 = .ok (.lload 15, 2) := by decide +kernel
theorem dX6_share_102 : decode cX6_share 102 = .ok (.lconst 1, 1) := by decide +kernel
theorem dX6_share_103 : decode cX6_share 103 = .ok (.lcmp, 1) := by decide +kernel
theorem dX6_share_104 : decode cX6_share 104 = .ok (.ifCond .le 17, 3) := by decide +kernel
theorem dX6_share_107 : decode cX6_share 107 = .ok (.lload 6, 2) := by decide +kernel
theorem dX6_share_109 : decode cX6_share 109 = .ok (.lload 15, 2) := by decide +kernel
theorem dX6_share_111 : decode cX6_share 111 = .ok (.ldiv, 1) := by decide +kernel
theorem dX6_share_112 : decode cX6_share 112 = .ok (.lstore 6, 2) := by decide +kernel
theorem dX6_share_114 : decode cX6_share 114 = .ok (.lload 8, 2) := by decide +kernel
theorem dX6_share_116 : decode cX6_share 116 = .ok (.lload 15, 2) := by decide +kernel
theorem dX6_share_118 : decode cX6_share 118 = .ok (.ldiv, 1) := by decide +kernel
theorem dX6_share_119 : decode cX6_share 119 = .ok (.lstore 8, 2) := by decide +kernel
theorem dX6_share_121 : decode cX6_share 121 = .ok (.iinc 10 1, 3) := by decide +kernel
theorem dX6_share_124 : decode cX6_share 124 = .ok (.goto (-115), 3) := by decide +kernel
theorem dX6_share_127 : decode cX6_share 127 = .ok (.iload 5, 2) := by decide +kernel
theorem dX6_share_129 : decode cX6_share 129 = .ok (.ifCond .eq 8, 3) := by decide +kernel
theorem dX6_share_132 : decode cX6_share 132 = .ok (.lload 8, 2) := by decide +kernel
theorem dX6_share_134 : decode cX6_share 134 = .ok (.goto 5, 3) := by decide +kernel
theorem dX6_share_137 : decode cX6_share 137 = .ok (.lload 6, 2) := by decide +kernel
theorem dX6_share_139 : decode cX6_share 139 = .ok (.lreturn, 1) := by decide +kernel
theorem dX6_greatestDivisor_0 : decode cX6_greatestDivisor 0 = .ok (.lload_n 0, 1) := by decide +kernel
theorem dX6_greatestDivisor_1 : decode cX6_greatestDivisor 1 = .ok (.lstore 4, 2) := by decide +kernel
theorem dX6_greatestDivisor_3 : decode cX6_greatestDivisor 3 = .ok (.lload_n 2, 1) := by decide +kernel
theorem dX6_greatestDivisor_4 : decode cX6_greatestDivisor 4 = .ok (.lstore 6, 2) := by decide +kernel
theorem dX6_greatestDivisor_6 : decode cX6_greatestDivisor 6 = .ok (.iconst 0, 1) := by decide +kernel
theorem dX6_greatestDivisor_7 : decode cX6_greatestDivisor 7 = .ok (.istore 8, 2) := by decide +kernel
theorem dX6_greatestDivisor_9 : decode cX6_greatestDivisor 9 = .ok (.iload 8, 2) := by decide +kernel
theorem dX6_greatestDivisor_11 : decode cX6_greatestDivisor 11 = .ok (.bipush 100, 2) := by decide +kernel
theorem dX6_greatestDivisor_13 : decode cX6_greatestDivisor 13 = .ok (.if_icmp .ge 31, 3) := by decide +kernel
theorem dX6_greatestDivisor_16 : decode cX6_greatestDivisor 16 = .ok (.lload 6, 2) := by decide +kernel
theorem dX6_greatestDivisor_18 : decode cX6_greatestDivisor 18 = .ok (.lconst 0, 1) := by decide +kernel
theorem dX6_greatestDivisor_19 : decode cX6_greatestDivisor 19 = .ok (.lcmp, 1) := by decide +kernel
theorem dX6_greatestDivisor_20 : decode cX6_greatestDivisor 20 = .ok (.ifCond .eq 24, 3) := by decide +kernel
theorem dX6_greatestDivisor_23 : decode cX6_greatestDivisor 23 = .ok (.lload 4, 2) := by decide +kernel
theorem dX6_greatestDivisor_25 : decode cX6_greatestDivisor 25 = .ok (.lload 6, 2) := by decide +kernel
theorem dX6_greatestDivisor_27 : decode cX6_greatestDivisor 27 = .ok (.lrem, 1) := by decide +kernel
theorem dX6_greatestDivisor_28 : decode cX6_greatestDivisor 28 = .ok (.lstore 9, 2) := by decide +kernel
theorem dX6_greatestDivisor_30 : decode cX6_greatestDivisor 30 = .ok (.lload 6, 2) := by decide +kernel
theorem dX6_greatestDivisor_32 : decode cX6_greatestDivisor 32 = .ok (.lstore 4, 2) := by decide +kernel
theorem dX6_greatestDivisor_34 : decode cX6_greatestDivisor 34 = .ok (.lload 9, 2) := by decide +kernel
theorem dX6_greatestDivisor_36 : decode cX6_greatestDivisor 36 = .ok (.lstore 6, 2) := by decide +kernel
theorem dX6_greatestDivisor_38 : decode cX6_greatestDivisor 38 = .ok (.iinc 8 1, 3) := by decide +kernel
theorem dX6_greatestDivisor_41 : decode cX6_greatestDivisor 41 = .ok (.goto (-32), 3) := by decide +kernel
theorem dX6_greatestDivisor_44 : decode cX6_greatestDivisor 44 = .ok (.lload 4, 2) := by decide +kernel
theorem dX6_greatestDivisor_46 : decode cX6_greatestDivisor 46 = .ok (.lreturn, 1) := by decide +kernel
theorem dX7_init_0 : decode cX7_init 0 = .ok (.aload_n 0, 1) := by decide +kernel
theorem dX7_init_1 : decode cX7_init 1 = .ok (.invokespecial 3, 3) := by decide +kernel
theorem dX7_init_4 : decode cX7_init 4 = .ok (.aload_n 0, 1) := by decide +kernel
theorem dX7_init_5 : decode cX7_init 5 = .ok (.new 9, 3) := by decide +kernel
theorem dX7_init_8 : decode cX7_init 8 = .ok (.dup, 1) := by decide +kernel
theorem dX7_init_9 : decode cX7_init 9 = .ok (.invokespecial 11, 3) := by decide +kernel
theorem dX7_init_12 : decode cX7_init 12 = .ok (.putfield 12, 3) := by decide +kernel
theorem dX7_init_15 : decode cX7_init 15 = .ok (.aload_n 0, 1) := by decide +kernel
theorem dX7_init_16 : decode cX7_init 16 = .ok (.new 16, 3) := by decide +kernel
theorem dX7_init_19 : decode cX7_init 19 = .ok (.dup, 1) := by decide +kernel
theorem dX7_init_20 : decode cX7_init 20 = .ok (.invokespecial 18, 3) := by decide +kernel
theorem dX7_init_23 : decode cX7_init 23 = .ok (.putfield 19, 3) := by decide +kernel
theorem dX7_init_26 : decode cX7_init 26 = .ok (.aload_n 0, 1) := by decide +kernel
theorem dX7_init_27 : decode cX7_init 27 = .ok (.iconst 4, 1) := by decide +kernel
theorem dX7_init_28 : decode cX7_init 28 = .ok (.anewarray 23, 3) := by decide +kernel
theorem dX7_init_31 : decode cX7_init 31 = .ok (.putfield 25, 3) := by decide +kernel
theorem dX7_init_34 : decode cX7_init 34 = .ok (.aload_n 0, 1) := by decide +kernel
theorem dX7_init_35 : decode cX7_init 35 = .ok (.iconst 4, 1) := by decide +kernel
theorem dX7_init_36 : decode cX7_init 36 = .ok (.anewarray 29, 3) := by decide +kernel
theorem dX7_init_39 : decode cX7_init 39 = .ok (.putfield 31, 3) := by decide +kernel
theorem dX7_init_42 : decode cX7_init 42 = .ok (.iconst 0, 1) := by decide +kernel
theorem dX7_init_43 : decode cX7_init 43 = .ok (.istore_n 1, 1) := by decide +kernel
theorem dX7_init_44 : decode cX7_init 44 = .ok (.iload_n 1, 1) := by decide +kernel
theorem dX7_init_45 : decode cX7_init 45 = .ok (.iconst 4, 1) := by decide +kernel
theorem dX7_init_46 : decode cX7_init 46 = .ok (.if_icmp .ge 22, 3) := by decide +kernel
theorem dX7_init_49 : decode cX7_init 49 = .ok (.aload_n 0, 1) := by decide +kernel
theorem dX7_init_50 : decode cX7_init 50 = .ok (.getfield 25, 3) := by decide +kernel
theorem dX7_init_53 : decode cX7_init 53 = .ok (.iload_n 1, 1) := by decide +kernel
theorem dX7_init_54 : decode cX7_init 54 = .ok (.new 23, 3) := by decide +kernel
theorem dX7_init_57 : decode cX7_init 57 = .ok (.dup, 1) := by decide +kernel
theorem dX7_init_58 : decode cX7_init 58 = .ok (.invokespecial 35, 3) := by decide +kernel
theorem dX7_init_61 : decode cX7_init 61 = .ok (.aastore, 1) := by decide +kernel
theorem dX7_init_62 : decode cX7_init 62 = .ok (.iinc 1 1, 3) := by decide +kernel
theorem dX7_init_65 : decode cX7_init 65 = .ok (.goto (-21), 3) := by decide +kernel
theorem dX7_init_68 : decode cX7_init 68 = .ok (.iconst 0, 1) := by decide +kernel
theorem dX7_init_69 : decode cX7_init 69 = .ok (.istore_n 1, 1) := by decide +kernel
theorem dX7_init_70 : decode cX7_init 70 = .ok (.iload_n 1, 1) := by decide +kernel
theorem dX7_init_71 : decode cX7_init 71 = .ok (.iconst 4, 1) := by decide +kernel
theorem dX7_init_72 : decode cX7_init 72 = .ok (.if_icmp .ge 22, 3) := by decide +kernel
theorem dX7_init_75 : decode cX7_init 75 = .ok (.aload_n 0, 1) := by decide +kernel
theorem dX7_init_76 : decode cX7_init 76 = .ok (.getfield 31, 3) := by decide +kernel
theorem dX7_init_79 : decode cX7_init 79 = .ok (.iload_n 1, 1) := by decide +kernel
theorem dX7_init_80 : decode cX7_init 80 = .ok (.new 29, 3) := by decide +kernel
theorem dX7_init_83 : decode cX7_init 83 = .ok (.dup, 1) := by decide +kernel
theorem dX7_init_84 : decode cX7_init 84 = .ok (.invokespecial 36, 3) := by decide +kernel
theorem dX7_init_87 : decode cX7_init 87 = .ok (.aastore, 1) := by decide +kernel
theorem dX7_init_88 : decode cX7_init 88 = .ok (.iinc 1 1, 3) := by decide +kernel
theorem dX7_init_91 : decode cX7_init 91 = .ok (.goto (-21), 3) := by decide +kernel
theorem dX7_init_94 : decode cX7_init 94 = .ok (.return_, 1) := by decide +kernel
theorem dX7_unit_0 : decode cX7_unit 0 = .ok (.iload_n 1, 1) := by decide +kernel
theorem dX7_unit_1 : decode cX7_unit 1 = .ok (.invokestatic 37, 3) := by decide +kernel
theorem dX7_unit_4 : decode cX7_unit 4 = .ok (.ifCond .ne 11, 3) := by decide +kernel
theorem dX7_unit_7 : decode cX7_unit 7 = .ok (.aload_n 0, 1) := by decide +kernel
theorem dX7_unit_8 : decode cX7_unit 8 = .ok (.ldc2_w 41, 3) := by decide +kernel
theorem dX7_unit_11 : decode cX7_unit 11 = .ok (.invokevirtual 43, 3) := by decide +kernel
theorem dX7_unit_14 : decode cX7_unit 14 = .ok (.lreturn, 1) := by decide +kernel
theorem dX7_unit_15 : decode cX7_unit 15 = .ok (.aload_n 0, 1) := by decide +kernel
theorem dX7_unit_16 : decode cX7_unit 16 = .ok (.getfield 12, 3) := by decide +kernel
theorem dX7_unit_19 : decode cX7_unit 19 = .ok (.invokevirtual 47, 3) := by decide +kernel
theorem dX7_unit_22 : decode cX7_unit 22 = .ok (.ifCond .eq 11, 3) := by decide +kernel
theorem dX7_unit_25 : decode cX7_unit 25 = .ok (.aload_n 0, 1) := by decide +kernel
theorem dX7_unit_26 : decode cX7_unit 26 = .ok (.ldc2_w 51, 3) := by decide +kernel
theorem dX7_unit_29 : decode cX7_unit 29 = .ok (.invokevirtual 43, 3) := by decide +kernel
theorem dX7_unit_32 : decode cX7_unit 32 = .ok (.lreturn, 1) := by decide +kernel
theorem dX7_unit_33 : decode cX7_unit 33 = .ok (.aload_n 0, 1) := by decide +kernel
theorem dX7_unit_34 : decode cX7_unit 34 = .ok (.getfield 12, 3) := by decide +kernel
theorem dX7_unit_37 : decode cX7_unit 37 = .ok (.iload_n 1, 1) := by decide +kernel
theorem dX7_unit_38 : decode cX7_unit 38 = .ok (.invokevirtual 53, 3) := by decide +kernel
theorem dX7_unit_41 : decode cX7_unit 41 = .ok (.i2l, 1) := by decide +kernel
theorem dX7_unit_42 : decode cX7_unit 42 = .ok (.lreturn, 1) := by decide +kernel
theorem dX7_as_0 : decode cX7_as 0 = .ok (.aload_n 0, 1) := by decide +kernel
theorem dX7_as_1 : decode cX7_as 1 = .ok (.getfield 12, 3) := by decide +kernel
theorem dX7_as_4 : decode cX7_as 4 = .ok (.iload_n 1, 1) := by decide +kernel
theorem dX7_as_5 : decode cX7_as 5 = .ok (.invokevirtual 57, 3) := by decide +kernel
theorem dX7_as_8 : decode cX7_as 8 = .ok (.ifCond .eq 10, 3) := by decide +kernel
theorem dX7_as_11 : decode cX7_as 11 = .ok (.iload_n 2, 1) := by decide +kernel
theorem dX7_as_12 : decode cX7_as 12 = .ok (.invokestatic 37, 3) := by decide +kernel
theorem dX7_as_15 : decode cX7_as 15 = .ok (.ifCond .ne 11, 3) := by decide +kernel
theorem dX7_as_18 : decode cX7_as 18 = .ok (.aload_n 0, 1) := by decide +kernel
theorem dX7_as_19 : decode cX7_as 19 = .ok (.ldc2_w 41, 3) := by decide +kernel
theorem dX7_as_22 : decode cX7_as 22 = .ok (.invokevirtual 43, 3) := by decide +kernel
theorem dX7_as_25 : decode cX7_as 25 = .ok (.lreturn, 1) := by decide +kernel
theorem dX7_as_26 : decode cX7_as 26 = .ok (.aload_n 0, 1) := by decide +kernel
theorem dX7_as_27 : decode cX7_as 27 = .ok (.getfield 12, 3) := by decide +kernel
theorem dX7_as_30 : decode cX7_as 30 = .ok (.iload_n 1, 1) := by decide +kernel
theorem dX7_as_31 : decode cX7_as 31 = .ok (.invokevirtual 60, 3) := by decide +kernel
theorem dX7_as_34 : decode cX7_as 34 = .ok (.iload_n 2, 1) := by decide +kernel
theorem dX7_as_35 : decode cX7_as 35 = .ok (.invokestatic 63, 3) := by decide +kernel
theorem dX7_as_38 : decode cX7_as 38 = .ok (.ifCond .ne 11, 3) := by decide +kernel
theorem dX7_as_41 : decode cX7_as 41 = .ok (.aload_n 0, 1) := by decide +kernel
theorem dX7_as_42 : decode cX7_as 42 = .ok (.ldc2_w 67, 3) := by decide +kernel
theorem dX7_as_45 : decode cX7_as 45 = .ok (.invokevirtual 43, 3) := by decide +kernel
theorem dX7_as_48 : decode cX7_as 48 = .ok (.lreturn, 1) := by decide +kernel
theorem dX7_as_49 : decode cX7_as 49 = .ok (.iload_n 1, 1) := by decide +kernel
theorem dX7_as_50 : decode cX7_as 50 = .ok (.i2l, 1) := by decide +kernel
theorem dX7_as_51 : decode cX7_as 51 = .ok (.lreturn, 1) := by decide +kernel
theorem dX7_found_0 : decode cX7_found 0 = .ok (.aload_n 0, 1) := by decide +kernel
theorem dX7_found_1 : decode cX7_found 1 = .ok (.getfield 12, 3) := by decide +kernel
theorem dX7_found_4 : decode cX7_found 4 = .ok (.iload_n 1, 1) := by decide +kernel
theorem dX7_found_5 : decode cX7_found 5 = .ok (.invokevirtual 57, 3) := by decide +kernel
theorem dX7_found_8 : decode cX7_found 8 = .ok (.ifCond .eq 17, 3) := by decide +kernel
theorem dX7_found_11 : decode cX7_found 11 = .ok (.iload_n 2, 1) := by decide +kernel
theorem dX7_found_12 : decode cX7_found 12 = .ok (.invokestatic 69, 3) := by decide +kernel
theorem dX7_found_15 : decode cX7_found 15 = .ok (.ifCond .eq 10, 3) := by decide +kernel
theorem dX7_found_18 : decode cX7_found 18 = .ok (.lload_n 3, 1) := by decide +kernel
theorem dX7_found_19 : decode cX7_found 19 = .ok (.invokestatic 72, 3) := by decide +kernel
theorem dX7_found_22 : decode cX7_found 22 = .ok (.ifCond .ne 11, 3) := by decide +kernel
theorem dX7_found_25 : decode cX7_found 25 = .ok (.aload_n 0, 1) := by decide +kernel
theorem dX7_found_26 : decode cX7_found 26 = .ok (.ldc2_w 41, 3) := by decide +kernel
theorem dX7_found_29 : decode cX7_found 29 = .ok (.invokevirtual 43, 3) := by decide +kernel
theorem dX7_found_32 : decode cX7_found 32 = .ok (.lreturn, 1) := by decide +kernel
theorem dX7_found_33 : decode cX7_found 33 = .ok (.aload_n 0, 1) := by decide +kernel
theorem dX7_found_34 : decode cX7_found 34 = .ok (.getfield 12, 3) := by decide +kernel
theorem dX7_found_37 : decode cX7_found 37 = .ok (.iload_n 1, 1) := by decide +kernel
theorem dX7_found_38 : decode cX7_found 38 = .ok (.invokevirtual 78, 3) := by decide +kernel
theorem dX7_found_41 : decode cX7_found 41 = .ok (.ifCond .eq 11, 3) := by decide +kernel
theorem dX7_found_44 : decode cX7_found 44 = .ok (.aload_n 0, 1) := by decide +kernel
theorem dX7_found_45 : decode cX7_found 45 = .ok (.ldc2_w 67, 3) := by decide +kernel
theorem dX7_found_48 : decode cX7_found 48 = .ok (.invokevirtual 43, 3) := by decide +kernel
theorem dX7_found_51 : decode cX7_found 51 = .ok (.lreturn, 1) := by decide +kernel
theorem dX7_found_52 : decode cX7_found 52 = .ok (.aload_n 0, 1) := by decide +kernel
theorem dX7_found_53 : decode cX7_found 53 = .ok (.iconst 0, 1) := by decide +kernel
theorem dX7_found_54 : decode cX7_found 54 = .ok (.iload_n 1, 1) := by decide +kernel
theorem dX7_found_55 : decode cX7_found 55 = .ok (.bipush 10, 2) := by decide +kernel
theorem dX7_found_57 : decode cX7_found 57 = .ok (.iload_n 2, 1) := by decide +kernel
theorem dX7_found_58 : decode cX7_found 58 = .ok (.lload_n 3, 1) := by decide +kernel
theorem dX7_found_59 : decode cX7_found 59 = .ok (.invokevirtual 81, 3) := by decide +kernel
theorem dX7_found_62 : decode cX7_found 62 = .ok (.lreturn, 1) := by decide +kernel
theorem dX7_move_0 : decode cX7_move 0 = .ok (.aload_n 0, 1) := by decide +kernel
theorem dX7_move_1 : decode cX7_move 1 = .ok (.iconst 1, 1) := by decide +kernel
theorem dX7_move_2 : decode cX7_move 2 = .ok (.iload_n 1, 1) := by decide +kernel
theorem dX7_move_3 : decode cX7_move 3 = .ok (.iload_n 2, 1) := by decide +kernel
theorem dX7_move_4 : decode cX7_move 4 = .ok (.iload_n 3, 1) := by decide +kernel
theorem dX7_move_5 : decode cX7_move 5 = .ok (.lload 4, 2) := by decide +kernel
theorem dX7_move_7 : decode cX7_move 7 = .ok (.invokevirtual 85, 3) := by decide +kernel
theorem dX7_move_10 : decode cX7_move 10 = .ok (.lreturn, 1) := by decide +kernel
theorem dX7_swallow_0 : decode cX7_swallow 0 = .ok (.aload_n 0, 1) := by decide +kernel
theorem dX7_swallow_1 : decode cX7_swallow 1 = .ok (.iconst 2, 1) := by decide +kernel
theorem dX7_swallow_2 : decode cX7_swallow 2 = .ok (.iload_n 1, 1) := by decide +kernel
theorem dX7_swallow_3 : decode cX7_swallow 3 = .ok (.iload_n 2, 1) := by decide +kernel
theorem dX7_swallow_4 : decode cX7_swallow 4 = .ok (.iload_n 3, 1) := by decide +kernel
theorem dX7_swallow_5 : decode cX7_swallow 5 = .ok (.ldc2_w 88, 3) := by decide +kernel
theorem dX7_swallow_8 : decode cX7_swallow 8 = .ok (.invokevirtual 85, 3) := by decide +kernel
theorem dX7_swallow_11 : decode cX7_swallow 11 = .ok (.lreturn, 1) := by decide +kernel
theorem dX7_back_0 : decode cX7_back 0 = .ok (.aload_n 0, 1) := by decide +kernel
theorem dX7_back_1 : decode cX7_back 1 = .ok (.getfield 12, 3) := by decide +kernel
theorem dX7_back_4 : decode cX7_back 4 = .ok (.iload_n 1, 1) := by decide +kernel
theorem dX7_back_5 : decode cX7_back 5 = .ok (.invokevirtual 90, 3) := by decide +kernel
theorem dX7_back_8 : decode cX7_back 8 = .ok (.ifCond .eq 26, 3) := by decide +kernel
theorem dX7_back_11 : decode cX7_back 11 = .ok (.iload_n 2, 1) := by decide +kernel
theorem dX7_back_12 : decode cX7_back 12 = .ok (.invokestatic 69, 3) := by decide +kernel
theorem dX7_back_15 : decode cX7_back 15 = .ok (.ifCond .eq 19, 3) := by decide +kernel
theorem dX7_back_18 : decode cX7_back 18 = .ok (.iload_n 2, 1) := by decide +kernel
theorem dX7_back_19 : decode cX7_back 19 = .ok (.aload_n 0, 1) := by decide +kernel
theorem dX7_back_20 : decode cX7_back 20 = .ok (.getfield 12, 3) := by decide +kernel
theorem dX7_back_23 : decode cX7_back 23 = .ok (.getfield 93, 3) := by decide +kernel
theorem dX7_back_26 : decode cX7_back 26 = .ok (.iload_n 1, 1) := by decide +kernel
theorem dX7_back_27 : decode cX7_back 27 = .ok (.aaload, 1) := by decide +kernel
theorem dX7_back_28 : decode cX7_back 28 = .ok (.getfield 97, 3) := by decide +kernel
theorem dX7_back_31 : decode cX7_back 31 = .ok (.if_icmp .ge 11, 3) := by decide +kernel
theorem dX7_back_34 : decode cX7_back 34 = .ok (.aload_n 0, 1) := by decide +kernel
theorem dX7_back_35 : decode cX7_back 35 = .ok (.ldc2_w 41, 3) := by decide +kernel
theorem dX7_back_38 : decode cX7_back 38 = .ok (.invokevirtual 43, 3) := by decide +kernel
theorem dX7_back_41 : decode cX7_back 41 = .ok (.lreturn, 1) := by decide +kernel
theorem dX7_back_42 : decode cX7_back 42 = .ok (.aload_n 0, 1) := by decide +kernel
theorem dX7_back_43 : decode cX7_back 43 = .ok (.getfield 12, 3) := by decide +kernel
theorem dX7_back_46 : decode cX7_back 46 = .ok (.getfield 93, 3) := by decide +kernel
theorem dX7_back_49 : decode cX7_back 49 = .ok (.iload_n 1, 1) := by decide +kernel
theorem dX7_back_50 : decode cX7_back 50 = .ok (.aaload, 1) := by decide +kernel
theorem dX7_back_51 : decode cX7_back 51 = .ok (.invokevirtual 103, 3) := by decide +kernel
theorem dX7_back_54 : decode cX7_back 54 = .ok (.ifCond .ne 11, 3) := by decide +kernel
theorem dX7_back_57 : decode cX7_back 57 = .ok (.aload_n 0, 1) := by decide +kernel
theorem dX7_back_58 : decode cX7_back 58 = .ok (.ldc2_w 67, 3) := by decide +kernel
theorem dX7_back_61 : decode cX7_back 61 = .ok (.invokevirtual 43, 3) := by decide +kernel
theorem dX7_back_64 : decode cX7_back 64 = .ok (.lreturn, 1) := by decide +kernel
theorem dX7_back_65 : decode cX7_back 65 = .ok (.aload_n 0, 1) := by decide +kernel
theorem dX7_back_66 : decode cX7_back 66 = .ok (.iconst 3, 1) := by decide +kernel
theorem dX7_back_67 : decode cX7_back 67 = .ok (.iload_n 1, 1) := by decide +kernel
theorem dX7_back_68 : decode cX7_back 68 = .ok (.bipush 10, 2) := by decide +kernel
theorem dX7_back_70 : decode cX7_back 70 = .ok (.iload_n 2, 1) := by decide +kernel
theorem dX7_back_71 : decode cX7_back 71 = .ok (.lconst 0, 1) := by decide +kernel
theorem dX7_back_72 : decode cX7_back 72 = .ok (.invokevirtual 81, 3) := by decide +kernel
theorem dX7_back_75 : decode cX7_back 75 = .ok (.lreturn, 1) := by decide +kernel
theorem dX7_join_0 : decode cX7_join 0 = .ok (.aload_n 0, 1) := by decide +kernel
theorem dX7_join_1 : decode cX7_join 1 = .ok (.getfield 12, 3) := by decide +kernel
theorem dX7_join_4 : decode cX7_join 4 = .ok (.iload_n 1, 1) := by decide +kernel
theorem dX7_join_5 : decode cX7_join 5 = .ok (.invokevirtual 57, 3) := by decide +kernel
theorem dX7_join_8 : decode cX7_join 8 = .ok (.ifCond .eq 21, 3) := by decide +kernel
theorem dX7_join_11 : decode cX7_join 11 = .ok (.aload_n 0, 1) := by decide +kernel
theorem dX7_join_12 : decode cX7_join 12 = .ok (.getfield 12, 3) := by decide +kernel
theorem dX7_join_15 : decode cX7_join 15 = .ok (.iload_n 2, 1) := by decide +kernel
theorem dX7_join_16 : decode cX7_join 16 = .ok (.invokevirtual 57, 3) := by decide +kernel
theorem dX7_join_19 : decode cX7_join 19 = .ok (.ifCond .eq 10, 3) := by decide +kernel
theorem dX7_join_22 : decode cX7_join 22 = .ok (.iload_n 3, 1) := by decide +kernel
theorem dX7_join_23 : decode cX7_join 23 = .ok (.invokestatic 69, 3) := by decide +kernel
theorem dX7_join_26 : decode cX7_join 26 = .ok (.ifCond .ne 11, 3) := by decide +kernel
theorem dX7_join_29 : decode cX7_join 29 = .ok (.aload_n 0, 1) := by decide +kernel
theorem dX7_join_30 : decode cX7_join 30 = .ok (.ldc2_w 41, 3) := by decide +kernel
theorem dX7_join_33 : decode cX7_join 33 = .ok (.invokevirtual 43, 3) := by decide +kernel
theorem dX7_join_36 : decode cX7_join 36 = .ok (.lreturn, 1) := by decide +kernel
theorem dX7_join_37 : decode cX7_join 37 = .ok (.aload_n 0, 1) := by decide +kernel
theorem dX7_join_38 : decode cX7_join 38 = .ok (.getfield 12, 3) := by decide +kernel
theorem dX7_join_41 : decode cX7_join 41 = .ok (.iload_n 1, 1) := by decide +kernel
theorem dX7_join_42 : decode cX7_join 42 = .ok (.invokevirtual 78, 3) := by decide +kernel
theorem dX7_join_45 : decode cX7_join 45 = .ok (.ifCond .ne 14, 3) := by decide +kernel
theorem dX7_join_48 : decode cX7_join 48 = .ok (.aload_n 0, 1) := by decide +kernel
theorem dX7_join_49 : decode cX7_join 49 = .ok (.getfield 12, 3) := by decide +kernel
theorem dX7_join_52 : decode cX7_join 52 = .ok (.iload_n 2, 1) := by decide +kernel
theorem dX7_join_53 : decode cX7_join 53 = .ok (.invokevirtual 78, 3) := by decide +kernel
theorem dX7_join_56 : decode cX7_join 56 = .ok (.ifCond .ne 11, 3) := by decide +kernel
theorem dX7_join_59 : decode cX7_join 59 = .ok (.aload_n 0, 1) := by decide +kernel
theorem dX7_join_60 : decode cX7_join 60 = .ok (.ldc2_w 67, 3) := by decide +kernel
theorem dX7_join_63 : decode cX7_join 63 = .ok (.invokevirtual 43, 3) := by decide +kernel
theorem dX7_join_66 : decode cX7_join 66 = .ok (.lreturn, 1) := by decide +kernel
theorem dX7_join_67 : decode cX7_join 67 = .ok (.aload_n 0, 1) := by decide +kernel
theorem dX7_join_68 : decode cX7_join 68 = .ok (.iconst 4, 1) := by decide +kernel
theorem dX7_join_69 : decode cX7_join 69 = .ok (.iload_n 1, 1) := by decide +kernel
theorem dX7_join_70 : decode cX7_join 70 = .ok (.iload_n 2, 1) := by decide +kernel
theorem dX7_join_71 : decode cX7_join 71 = .ok (.iload_n 3, 1) := by decide +kernel
theorem dX7_join_72 : decode cX7_join 72 = .ok (.lconst 0, 1) := by decide +kernel
theorem dX7_join_73 : decode cX7_join 73 = .ok (.invokevirtual 81, 3) := by decide +kernel
theorem dX7_join_76 : decode cX7_join 76 = .ok (.lreturn, 1) := by decide +kernel
theorem dX7_act_0 : decode cX7_act 0 = .ok (.aload_n 0, 1) := by decide +kernel
theorem dX7_act_1 : decode cX7_act 1 = .ok (.getfield 12, 3) := by decide +kernel
theorem dX7_act_4 : decode cX7_act 4 = .ok (.iload_n 1, 1) := by decide +kernel
theorem dX7_act_5 : decode cX7_act 5 = .ok (.invokevirtual 90, 3) := by decide +kernel
theorem dX7_act_8 : decode cX7_act 8 = .ok (.ifCond .ne 11, 3) := by decide +kernel
theorem dX7_act_11 : decode cX7_act 11 = .ok (.aload_n 0, 1) := by decide +kernel
theorem dX7_act_12 : decode cX7_act 12 = .ok (.ldc2_w 41, 3) := by decide +kernel
theorem dX7_act_15 : decode cX7_act 15 = .ok (.invokevirtual 43, 3) := by decide +kernel
theorem dX7_act_18 : decode cX7_act 18 = .ok (.lreturn, 1) := by decide +kernel
theorem dX7_act_19 : decode cX7_act 19 = .ok (.aload_n 0, 1) := by decide +kernel
theorem dX7_act_20 : decode cX7_act 20 = .ok (.getfield 12, 3) := by decide +kernel
theorem dX7_act_23 : decode cX7_act 23 = .ok (.getfield 93, 3) := by decide +kernel
theorem dX7_act_26 : decode cX7_act 26 = .ok (.iload_n 1, 1) := by decide +kernel
theorem dX7_act_27 : decode cX7_act 27 = .ok (.aaload, 1) := by decide +kernel
theorem dX7_act_28 : decode cX7_act 28 = .ok (.astore_n 3, 1) := by decide +kernel
theorem dX7_act_29 : decode cX7_act 29 = .ok (.iload_n 2, 1) := by decide +kernel
theorem dX7_act_30 : decode cX7_act 30 = .ok (.tableswitch 69 0 4 #[34, 40, 46, 54, 63], 34) := by decide +kernel
theorem dX7_act_64 : decode cX7_act 64 = .ok (.aload_n 3, 1) := by decide +kernel
theorem dX7_act_65 : decode cX7_act 65 = .ok (.getfield 106, 3) := by decide +kernel
theorem dX7_act_68 : decode cX7_act 68 = .ok (.i2l, 1) := by decide +kernel
theorem dX7_act_69 : decode cX7_act 69 = .ok (.lreturn, 1) := by decide +kernel
theorem dX7_act_70 : decode cX7_act 70 = .ok (.aload_n 3, 1) := by decide +kernel
theorem dX7_act_71 : decode cX7_act 71 = .ok (.getfield 97, 3) := by decide +kernel
theorem dX7_act_74 : decode cX7_act 74 = .ok (.i2l, 1) := by decide +kernel
theorem dX7_act_75 : decode cX7_act 75 = .ok (.lreturn, 1) := by decide +kernel
theorem dX7_act_76 : decode cX7_act 76 = .ok (.aload_n 3, 1) := by decide +kernel
theorem dX7_act_77 : decode cX7_act 77 = .ok (.getfield 109, 3) := by decide +kernel
theorem dX7_act_80 : decode cX7_act 80 = .ok (.invokestatic 113, 3) := by decide +kernel
theorem dX7_act_83 : decode cX7_act 83 = .ok (.lreturn, 1) := by decide +kernel
theorem dX7_act_84 : decode cX7_act 84 = .ok (.aload_n 3, 1) := by decide +kernel
theorem dX7_act_85 : decode cX7_act 85 = .ok (.getfield 117, 3) := by decide +kernel
theorem dX7_act_88 : decode cX7_act 88 = .ok (.invokestatic 121, 3) := by decide +kernel
theorem dX7_act_91 : decode cX7_act 91 = .ok (.i2l, 1) := by decide +kernel
theorem dX7_act_92 : decode cX7_act 92 = .ok (.lreturn, 1) := by decide +kernel
theorem dX7_act_93 : decode cX7_act 93 = .ok (.aload_n 3, 1) := by decide +kernel
theorem dX7_act_94 : decode cX7_act 94 = .ok (.getfield 127, 3) := by decide +kernel
theorem dX7_act_97 : decode cX7_act 97 = .ok (.i2l, 1) := by decide +kernel
theorem dX7_act_98 : decode cX7_act 98 = .ok (.lreturn, 1) := by decide +kernel
theorem dX7_act_99 : decode cX7_act 99 = .ok (.aload_n 0, 1) := by decide +kernel
theorem dX7_act_100 : decode cX7_act 100 = .ok (.ldc2_w 41, 3) := by decide +kernel
theorem dX7_act_103 : decode cX7_act 103 = .ok (.invokevirtual 43, 3) := by decide +kernel
theorem dX7_act_106 : decode cX7_act 106 = .ok (.lreturn, 1) := by decide +kernel
theorem dX7_untell_0 : decode cX7_untell 0 = .ok (.aload_n 0, 1) := by decide +kernel
theorem dX7_untell_1 : decode cX7_untell 1 = .ok (.getfield 12, 3) := by decide +kernel
theorem dX7_untell_4 : decode cX7_untell 4 = .ok (.getfield 130, 3) := by decide +kernel
theorem dX7_untell_7 : decode cX7_untell 7 = .ok (.ifCond .ne 11, 3) := by decide +kernel
theorem dX7_untell_10 : decode cX7_untell 10 = .ok (.aload_n 0, 1) := by decide +kernel
theorem dX7_untell_11 : decode cX7_untell 11 = .ok (.ldc2_w 133, 3) := by decide +kernel
theorem dX7_untell_14 : decode cX7_untell 14 = .ok (.invokevirtual 43, 3) := by decide +kernel
theorem dX7_untell_17 : decode cX7_untell 17 = .ok (.lreturn, 1) := by decide +kernel
theorem dX7_untell_18 : decode cX7_untell 18 = .ok (.aload_n 0, 1) := by decide +kernel
theorem dX7_untell_19 : decode cX7_untell 19 = .ok (.getfield 12, 3) := by decide +kernel
theorem dX7_untell_22 : decode cX7_untell 22 = .ok (.invokevirtual 135, 3) := by decide +kernel
theorem dX7_untell_25 : decode cX7_untell 25 = .ok (.aload_n 0, 1) := by decide +kernel
theorem dX7_untell_26 : decode cX7_untell 26 = .ok (.getfield 12, 3) := by decide +kernel
theorem dX7_untell_29 : decode cX7_untell 29 = .ok (.getfield 130, 3) := by decide +kernel
theorem dX7_untell_32 : decode cX7_untell 32 = .ok (.i2l, 1) := by decide +kernel
theorem dX7_untell_33 : decode cX7_untell 33 = .ok (.lreturn, 1) := by decide +kernel
theorem dX7_who_0 : decode cX7_who 0 = .ok (.iload_n 1, 1) := by decide +kernel
theorem dX7_who_1 : decode cX7_who 1 = .ok (.invokestatic 138, 3) := by decide +kernel
theorem dX7_who_4 : decode cX7_who 4 = .ok (.ifCond .eq 10, 3) := by decide +kernel
theorem dX7_who_7 : decode cX7_who 7 = .ok (.iload_n 2, 1) := by decide +kernel
theorem dX7_who_8 : decode cX7_who 8 = .ok (.invokestatic 69, 3) := by decide +kernel
theorem dX7_who_11 : decode cX7_who 11 = .ok (.ifCond .ne 11, 3) := by decide +kernel
theorem dX7_who_14 : decode cX7_who 14 = .ok (.aload_n 0, 1) := by decide +kernel
theorem dX7_who_15 : decode cX7_who 15 = .ok (.ldc2_w 41, 3) := by decide +kernel
theorem dX7_who_18 : decode cX7_who 18 = .ok (.invokevirtual 43, 3) := by decide +kernel
theorem dX7_who_21 : decode cX7_who 21 = .ok (.lreturn, 1) := by decide +kernel
theorem dX7_who_22 : decode cX7_who 22 = .ok (.aload_n 0, 1) := by decide +kernel
theorem dX7_who_23 : decode cX7_who 23 = .ok (.getfield 12, 3) := by decide +kernel
theorem dX7_who_26 : decode cX7_who 26 = .ok (.iload_n 2, 1) := by decide +kernel
theorem dX7_who_27 : decode cX7_who 27 = .ok (.invokevirtual 141, 3) := by decide +kernel
theorem dX7_who_30 : decode cX7_who 30 = .ok (.iload_n 1, 1) := by decide +kernel
theorem dX7_who_31 : decode cX7_who 31 = .ok (.invokevirtual 145, 3) := by decide +kernel
theorem dX7_who_34 : decode cX7_who 34 = .ok (.i2l, 1) := by decide +kernel
theorem dX7_who_35 : decode cX7_who 35 = .ok (.lreturn, 1) := by decide +kernel
theorem dX7_there_0 : decode cX7_there 0 = .ok (.aload_n 0, 1) := by decide +kernel
theorem dX7_there_1 : decode cX7_there 1 = .ok (.getfield 12, 3) := by decide +kernel
theorem dX7_there_4 : decode cX7_there 4 = .ok (.iload_n 1, 1) := by decide +kernel
theorem dX7_there_5 : decode cX7_there 5 = .ok (.invokevirtual 57, 3) := by decide +kernel
theorem dX7_there_8 : decode cX7_there 8 = .ok (.ifCond .eq 10, 3) := by decide +kernel
theorem dX7_there_11 : decode cX7_there 11 = .ok (.iload_n 2, 1) := by decide +kernel
theorem dX7_there_12 : decode cX7_there 12 = .ok (.invokestatic 69, 3) := by decide +kernel
theorem dX7_there_15 : decode cX7_there 15 = .ok (.ifCond .ne 11, 3) := by decide +kernel
theorem dX7_there_18 : decode cX7_there 18 = .ok (.aload_n 0, 1) := by decide +kernel
theorem dX7_there_19 : decode cX7_there 19 = .ok (.ldc2_w 41, 3) := by decide +kernel
theorem dX7_there_22 : decode cX7_there 22 = .ok (.invokevirtual 43, 3) := by decide +kernel
theorem dX7_there_25 : decode cX7_there 25 = .ok (.lreturn, 1) := by decide +kernel
theorem dX7_there_26 : decode cX7_there 26 = .ok (.aload_n 0, 1) := by decide +kernel
theorem dX7_there_27 : decode cX7_there 27 = .ok (.getfield 12, 3) := by decide +kernel
theorem dX7_there_30 : decode cX7_there 30 = .ok (.iload_n 1, 1) := by decide +kernel
theorem dX7_there_31 : decode cX7_there 31 = .ok (.invokevirtual 78, 3) := by decide +kernel
theorem dX7_there_34 : decode cX7_there 34 = .ok (.ifCond .ne 18, 3) := by decide +kernel
theorem dX7_there_37 : decode cX7_there 37 = .ok (.aload_n 0, 1) := by decide +kernel
theorem dX7_there_38 : decode cX7_there 38 = .ok (.getfield 12, 3) := by decide +kernel
theorem dX7_there_41 : decode cX7_there 41 = .ok (.iload_n 2, 1) := by decide +kernel
theorem dX7_there_42 : decode cX7_there 42 = .ok (.invokevirtual 141, 3) := by decide +kernel
theorem dX7_there_45 : decode cX7_there 45 = .ok (.iload_n 1, 1) := by decide +kernel
end
section
theorem dX7_there_46 : decode cX7_there 46 = .ok (.invokevirtual 150, 3) := by decide +kernel
theorem dX7_there_49 : decode cX7_there 49 = .ok (.ifCond .eq 7, 3) := by decide +kernel
theorem dX7_there_52 : decode cX7_there 52 = .ok (.iconst 1, 1) := by decide +kernel
theorem dX7_there_53 : decode cX7_there 53 = .ok (.goto 4, 3) := by decide +kernel
theorem dX7_there_56 : decode cX7_there 56 = .ok (.iconst 0, 1) := by decide +kernel
theorem dX7_there_57 : decode cX7_there 57 = .ok (.invokestatic 113, 3) := by decide +kernel
theorem dX7_there_60 : decode cX7_there 60 = .ok (.lreturn, 1) := by decide +kernel
theorem dX7_cells_0 : decode cX7_cells 0 = .ok (.aload_n 0, 1) := by decide +kernel
theorem dX7_cells_1 : decode cX7_cells 1 = .ok (.getfield 12, 3) := by decide +kernel
theorem dX7_cells_4 : decode cX7_cells 4 = .ok (.iload_n 1, 1) := by decide +kernel
theorem dX7_cells_5 : decode cX7_cells 5 = .ok (.invokevirtual 57, 3) := by decide +kernel
theorem dX7_cells_8 : decode cX7_cells 8 = .ok (.ifCond .eq 10, 3) := by decide +kernel
theorem dX7_cells_11 : decode cX7_cells 11 = .ok (.iload_n 2, 1) := by decide +kernel
theorem dX7_cells_12 : decode cX7_cells 12 = .ok (.invokestatic 69, 3) := by decide +kernel
theorem dX7_cells_15 : decode cX7_cells 15 = .ok (.ifCond .ne 11, 3) := by decide +kernel
theorem dX7_cells_18 : decode cX7_cells 18 = .ok (.aload_n 0, 1) := by decide +kernel
theorem dX7_cells_19 : decode cX7_cells 19 = .ok (.ldc2_w 41, 3) := by decide +kernel
theorem dX7_cells_22 : decode cX7_cells 22 = .ok (.invokevirtual 43, 3) := by decide +kernel
theorem dX7_cells_25 : decode cX7_cells 25 = .ok (.lreturn, 1) := by decide +kernel
theorem dX7_cells_26 : decode cX7_cells 26 = .ok (.aload_n 0, 1) := by decide +kernel
theorem dX7_cells_27 : decode cX7_cells 27 = .ok (.getfield 12, 3) := by decide +kernel
theorem dX7_cells_30 : decode cX7_cells 30 = .ok (.iload_n 1, 1) := by decide +kernel
theorem dX7_cells_31 : decode cX7_cells 31 = .ok (.iload_n 2, 1) := by decide +kernel
theorem dX7_cells_32 : decode cX7_cells 32 = .ok (.invokevirtual 153, 3) := by decide +kernel
theorem dX7_cells_35 : decode cX7_cells 35 = .ok (.lreturn, 1) := by decide +kernel
theorem dX7_shape_0 : decode cX7_shape 0 = .ok (.aload_n 0, 1) := by decide +kernel
theorem dX7_shape_1 : decode cX7_shape 1 = .ok (.getfield 12, 3) := by decide +kernel
theorem dX7_shape_4 : decode cX7_shape 4 = .ok (.iload_n 1, 1) := by decide +kernel
theorem dX7_shape_5 : decode cX7_shape 5 = .ok (.invokevirtual 57, 3) := by decide +kernel
theorem dX7_shape_8 : decode cX7_shape 8 = .ok (.ifCond .eq 10, 3) := by decide +kernel
theorem dX7_shape_11 : decode cX7_shape 11 = .ok (.iload_n 2, 1) := by decide +kernel
theorem dX7_shape_12 : decode cX7_shape 12 = .ok (.invokestatic 69, 3) := by decide +kernel
theorem dX7_shape_15 : decode cX7_shape 15 = .ok (.ifCond .ne 11, 3) := by decide +kernel
theorem dX7_shape_18 : decode cX7_shape 18 = .ok (.aload_n 0, 1) := by decide +kernel
theorem dX7_shape_19 : decode cX7_shape 19 = .ok (.ldc2_w 41, 3) := by decide +kernel
theorem dX7_shape_22 : decode cX7_shape 22 = .ok (.invokevirtual 43, 3) := by decide +kernel
theorem dX7_shape_25 : decode cX7_shape 25 = .ok (.lreturn, 1) := by decide +kernel
theorem dX7_shape_26 : decode cX7_shape 26 = .ok (.aload_n 0, 1) := by decide +kernel
theorem dX7_shape_27 : decode cX7_shape 27 = .ok (.getfield 12, 3) := by decide +kernel
theorem dX7_shape_30 : decode cX7_shape 30 = .ok (.iload_n 1, 1) := by decide +kernel
theorem dX7_shape_31 : decode cX7_shape 31 = .ok (.iload_n 2, 1) := by decide +kernel
theorem dX7_shape_32 : decode cX7_shape 32 = .ok (.invokevirtual 153, 3) := by decide +kernel
theorem dX7_shape_35 : decode cX7_shape 35 = .ok (.lstore 4, 2) := by decide +kernel
theorem dX7_shape_37 : decode cX7_shape 37 = .ok (.iload_n 3, 1) := by decide +kernel
theorem dX7_shape_38 : decode cX7_shape 38 = .ok (.tableswitch 47 0 2 #[26, 33, 40], 26) := by decide +kernel
theorem dX7_shape_64 : decode cX7_shape 64 = .ok (.lload 4, 2) := by decide +kernel
theorem dX7_shape_66 : decode cX7_shape 66 = .ok (.invokestatic 121, 3) := by decide +kernel
theorem dX7_shape_69 : decode cX7_shape 69 = .ok (.i2l, 1) := by decide +kernel
theorem dX7_shape_70 : decode cX7_shape 70 = .ok (.lreturn, 1) := by decide +kernel
theorem dX7_shape_71 : decode cX7_shape 71 = .ok (.lload 4, 2) := by decide +kernel
theorem dX7_shape_73 : decode cX7_shape 73 = .ok (.invokestatic 157, 3) := by decide +kernel
theorem dX7_shape_76 : decode cX7_shape 76 = .ok (.i2l, 1) := by decide +kernel
theorem dX7_shape_77 : decode cX7_shape 77 = .ok (.lreturn, 1) := by decide +kernel
theorem dX7_shape_78 : decode cX7_shape 78 = .ok (.lload 4, 2) := by decide +kernel
theorem dX7_shape_80 : decode cX7_shape 80 = .ok (.invokestatic 160, 3) := by decide +kernel
theorem dX7_shape_83 : decode cX7_shape 83 = .ok (.i2l, 1) := by decide +kernel
theorem dX7_shape_84 : decode cX7_shape 84 = .ok (.lreturn, 1) := by decide +kernel
theorem dX7_shape_85 : decode cX7_shape 85 = .ok (.aload_n 0, 1) := by decide +kernel
theorem dX7_shape_86 : decode cX7_shape 86 = .ok (.ldc2_w 41, 3) := by decide +kernel
theorem dX7_shape_89 : decode cX7_shape 89 = .ok (.invokevirtual 43, 3) := by decide +kernel
theorem dX7_shape_92 : decode cX7_shape 92 = .ok (.lreturn, 1) := by decide +kernel
theorem dX7_under_0 : decode cX7_under 0 = .ok (.aload_n 0, 1) := by decide +kernel
theorem dX7_under_1 : decode cX7_under 1 = .ok (.getfield 12, 3) := by decide +kernel
theorem dX7_under_4 : decode cX7_under 4 = .ok (.iload_n 1, 1) := by decide +kernel
theorem dX7_under_5 : decode cX7_under 5 = .ok (.invokevirtual 57, 3) := by decide +kernel
theorem dX7_under_8 : decode cX7_under 8 = .ok (.ifCond .eq 10, 3) := by decide +kernel
theorem dX7_under_11 : decode cX7_under 11 = .ok (.iload_n 2, 1) := by decide +kernel
theorem dX7_under_12 : decode cX7_under 12 = .ok (.invokestatic 69, 3) := by decide +kernel
theorem dX7_under_15 : decode cX7_under 15 = .ok (.ifCond .ne 11, 3) := by decide +kernel
theorem dX7_under_18 : decode cX7_under 18 = .ok (.aload_n 0, 1) := by decide +kernel
theorem dX7_under_19 : decode cX7_under 19 = .ok (.ldc2_w 41, 3) := by decide +kernel
theorem dX7_under_22 : decode cX7_under 22 = .ok (.invokevirtual 43, 3) := by decide +kernel
theorem dX7_under_25 : decode cX7_under 25 = .ok (.lreturn, 1) := by decide +kernel
theorem dX7_under_26 : decode cX7_under 26 = .ok (.aload_n 0, 1) := by decide +kernel
theorem dX7_under_27 : decode cX7_under 27 = .ok (.getfield 12, 3) := by decide +kernel
theorem dX7_under_30 : decode cX7_under 30 = .ok (.iload_n 1, 1) := by decide +kernel
theorem dX7_under_31 : decode cX7_under 31 = .ok (.invokevirtual 78, 3) := by decide +kernel
theorem dX7_under_34 : decode cX7_under 34 = .ok (.ifCond .eq 11, 3) := by decide +kernel
theorem dX7_under_37 : decode cX7_under 37 = .ok (.aload_n 0, 1) := by decide +kernel
theorem dX7_under_38 : decode cX7_under 38 = .ok (.ldc2_w 67, 3) := by decide +kernel
theorem dX7_under_41 : decode cX7_under 41 = .ok (.invokevirtual 43, 3) := by decide +kernel
theorem dX7_under_44 : decode cX7_under 44 = .ok (.lreturn, 1) := by decide +kernel
theorem dX7_under_45 : decode cX7_under 45 = .ok (.aload_n 0, 1) := by decide +kernel
theorem dX7_under_46 : decode cX7_under 46 = .ok (.getfield 12, 3) := by decide +kernel
theorem dX7_under_49 : decode cX7_under 49 = .ok (.iload_n 2, 1) := by decide +kernel
theorem dX7_under_50 : decode cX7_under 50 = .ok (.invokevirtual 141, 3) := by decide +kernel
theorem dX7_under_53 : decode cX7_under 53 = .ok (.iload_n 1, 1) := by decide +kernel
theorem dX7_under_54 : decode cX7_under 54 = .ok (.invokevirtual 163, 3) := by decide +kernel
theorem dX7_under_57 : decode cX7_under 57 = .ok (.istore_n 3, 1) := by decide +kernel
theorem dX7_under_58 : decode cX7_under 58 = .ok (.iload_n 3, 1) := by decide +kernel
theorem dX7_under_59 : decode cX7_under 59 = .ok (.bipush 10, 2) := by decide +kernel
theorem dX7_under_61 : decode cX7_under 61 = .ok (.if_icmp .ne 13, 3) := by decide +kernel
theorem dX7_under_64 : decode cX7_under 64 = .ok (.aload_n 0, 1) := by decide +kernel
theorem dX7_under_65 : decode cX7_under 65 = .ok (.ldc2_w 133, 3) := by decide +kernel
theorem dX7_under_68 : decode cX7_under 68 = .ok (.invokevirtual 43, 3) := by decide +kernel
theorem dX7_under_71 : decode cX7_under 71 = .ok (.goto 5, 3) := by decide +kernel
theorem dX7_under_74 : decode cX7_under 74 = .ok (.iload_n 3, 1) := by decide +kernel
theorem dX7_under_75 : decode cX7_under 75 = .ok (.i2l, 1) := by decide +kernel
theorem dX7_under_76 : decode cX7_under 76 = .ok (.lreturn, 1) := by decide +kernel
theorem dX7_led_0 : decode cX7_led 0 = .ok (.iload_n 1, 1) := by decide +kernel
theorem dX7_led_1 : decode cX7_led 1 = .ok (.invokestatic 138, 3) := by decide +kernel
theorem dX7_led_4 : decode cX7_led 4 = .ok (.ifCond .eq 17, 3) := by decide +kernel
theorem dX7_led_7 : decode cX7_led 7 = .ok (.iload_n 2, 1) := by decide +kernel
theorem dX7_led_8 : decode cX7_led 8 = .ok (.invokestatic 138, 3) := by decide +kernel
theorem dX7_led_11 : decode cX7_led 11 = .ok (.ifCond .eq 10, 3) := by decide +kernel
theorem dX7_led_14 : decode cX7_led 14 = .ok (.iload_n 3, 1) := by decide +kernel
theorem dX7_led_15 : decode cX7_led 15 = .ok (.invokestatic 69, 3) := by decide +kernel
theorem dX7_led_18 : decode cX7_led 18 = .ok (.ifCond .ne 11, 3) := by decide +kernel
theorem dX7_led_21 : decode cX7_led 21 = .ok (.aload_n 0, 1) := by decide +kernel
theorem dX7_led_22 : decode cX7_led 22 = .ok (.ldc2_w 41, 3) := by decide +kernel
theorem dX7_led_25 : decode cX7_led 25 = .ok (.invokevirtual 43, 3) := by decide +kernel
theorem dX7_led_28 : decode cX7_led 28 = .ok (.lreturn, 1) := by decide +kernel
theorem dX7_led_29 : decode cX7_led 29 = .ok (.iload_n 1, 1) := by decide +kernel
theorem dX7_led_30 : decode cX7_led 30 = .ok (.iload_n 2, 1) := by decide +kernel
theorem dX7_led_31 : decode cX7_led 31 = .ok (.invokestatic 166, 3) := by decide +kernel
theorem dX7_led_34 : decode cX7_led 34 = .ok (.ifCond .ne 11, 3) := by decide +kernel
theorem dX7_led_37 : decode cX7_led 37 = .ok (.aload_n 0, 1) := by decide +kernel
theorem dX7_led_38 : decode cX7_led 38 = .ok (.ldc2_w 169, 3) := by decide +kernel
theorem dX7_led_41 : decode cX7_led 41 = .ok (.invokevirtual 43, 3) := by decide +kernel
theorem dX7_led_44 : decode cX7_led 44 = .ok (.lreturn, 1) := by decide +kernel
theorem dX7_led_45 : decode cX7_led 45 = .ok (.aload_n 0, 1) := by decide +kernel
theorem dX7_led_46 : decode cX7_led 46 = .ok (.getfield 12, 3) := by decide +kernel
theorem dX7_led_49 : decode cX7_led 49 = .ok (.iload_n 1, 1) := by decide +kernel
theorem dX7_led_50 : decode cX7_led 50 = .ok (.iload_n 2, 1) := by decide +kernel
theorem dX7_led_51 : decode cX7_led 51 = .ok (.iload_n 3, 1) := by decide +kernel
theorem dX7_led_52 : decode cX7_led 52 = .ok (.invokevirtual 171, 3) := by decide +kernel
theorem dX7_led_55 : decode cX7_led 55 = .ok (.istore 4, 2) := by decide +kernel
theorem dX7_led_57 : decode cX7_led 57 = .ok (.iload 4, 2) := by decide +kernel
theorem dX7_led_59 : decode cX7_led 59 = .ok (.iconst (-1), 1) := by decide +kernel
theorem dX7_led_60 : decode cX7_led 60 = .ok (.if_icmp .ne 13, 3) := by decide +kernel
theorem dX7_led_63 : decode cX7_led 63 = .ok (.aload_n 0, 1) := by decide +kernel
theorem dX7_led_64 : decode cX7_led 64 = .ok (.ldc2_w 133, 3) := by decide +kernel
theorem dX7_led_67 : decode cX7_led 67 = .ok (.invokevirtual 43, 3) := by decide +kernel
theorem dX7_led_70 : decode cX7_led 70 = .ok (.goto 6, 3) := by decide +kernel
theorem dX7_led_73 : decode cX7_led 73 = .ok (.iload 4, 2) := by decide +kernel
theorem dX7_led_75 : decode cX7_led 75 = .ok (.i2l, 1) := by decide +kernel
theorem dX7_led_76 : decode cX7_led 76 = .ok (.lreturn, 1) := by decide +kernel
theorem dX7_borders_0 : decode cX7_borders 0 = .ok (.iload_n 1, 1) := by decide +kernel
theorem dX7_borders_1 : decode cX7_borders 1 = .ok (.invokestatic 69, 3) := by decide +kernel
theorem dX7_borders_4 : decode cX7_borders 4 = .ok (.ifCond .ne 11, 3) := by decide +kernel
theorem dX7_borders_7 : decode cX7_borders 7 = .ok (.aload_n 0, 1) := by decide +kernel
theorem dX7_borders_8 : decode cX7_borders 8 = .ok (.ldc2_w 41, 3) := by decide +kernel
theorem dX7_borders_11 : decode cX7_borders 11 = .ok (.invokevirtual 43, 3) := by decide +kernel
theorem dX7_borders_14 : decode cX7_borders 14 = .ok (.lreturn, 1) := by decide +kernel
theorem dX7_borders_15 : decode cX7_borders 15 = .ok (.aload_n 0, 1) := by decide +kernel
theorem dX7_borders_16 : decode cX7_borders 16 = .ok (.getfield 12, 3) := by decide +kernel
theorem dX7_borders_19 : decode cX7_borders 19 = .ok (.iload_n 1, 1) := by decide +kernel
theorem dX7_borders_20 : decode cX7_borders 20 = .ok (.invokevirtual 141, 3) := by decide +kernel
theorem dX7_borders_23 : decode cX7_borders 23 = .ok (.invokevirtual 175, 3) := by decide +kernel
theorem dX7_borders_26 : decode cX7_borders 26 = .ok (.i2l, 1) := by decide +kernel
theorem dX7_borders_27 : decode cX7_borders 27 = .ok (.lreturn, 1) := by decide +kernel
theorem dX7_changes_0 : decode cX7_changes 0 = .ok (.aload_n 0, 1) := by decide +kernel
theorem dX7_changes_1 : decode cX7_changes 1 = .ok (.getfield 12, 3) := by decide +kernel
theorem dX7_changes_4 : decode cX7_changes 4 = .ok (.iload_n 1, 1) := by decide +kernel
theorem dX7_changes_5 : decode cX7_changes 5 = .ok (.invokevirtual 57, 3) := by decide +kernel
theorem dX7_changes_8 : decode cX7_changes 8 = .ok (.ifCond .eq 10, 3) := by decide +kernel
theorem dX7_changes_11 : decode cX7_changes 11 = .ok (.iload_n 2, 1) := by decide +kernel
theorem dX7_changes_12 : decode cX7_changes 12 = .ok (.invokestatic 69, 3) := by decide +kernel
theorem dX7_changes_15 : decode cX7_changes 15 = .ok (.ifCond .ne 11, 3) := by decide +kernel
theorem dX7_changes_18 : decode cX7_changes 18 = .ok (.aload_n 0, 1) := by decide +kernel
theorem dX7_changes_19 : decode cX7_changes 19 = .ok (.ldc2_w 41, 3) := by decide +kernel
theorem dX7_changes_22 : decode cX7_changes 22 = .ok (.invokevirtual 43, 3) := by decide +kernel
theorem dX7_changes_25 : decode cX7_changes 25 = .ok (.lreturn, 1) := by decide +kernel
theorem dX7_changes_26 : decode cX7_changes 26 = .ok (.aload_n 0, 1) := by decide +kernel
theorem dX7_changes_27 : decode cX7_changes 27 = .ok (.getfield 12, 3) := by decide +kernel
theorem dX7_changes_30 : decode cX7_changes 30 = .ok (.iload_n 1, 1) := by decide +kernel
theorem dX7_changes_31 : decode cX7_changes 31 = .ok (.iload_n 2, 1) := by decide +kernel
theorem dX7_changes_32 : decode cX7_changes 32 = .ok (.invokevirtual 179, 3) := by decide +kernel
theorem dX7_changes_35 : decode cX7_changes 35 = .ok (.istore_n 3, 1) := by decide +kernel
theorem dX7_changes_36 : decode cX7_changes 36 = .ok (.iload_n 3, 1) := by decide +kernel
theorem dX7_changes_37 : decode cX7_changes 37 = .ok (.iconst (-1), 1) := by decide +kernel
theorem dX7_changes_38 : decode cX7_changes 38 = .ok (.if_icmp .ne 13, 3) := by decide +kernel
theorem dX7_changes_41 : decode cX7_changes 41 = .ok (.aload_n 0, 1) := by decide +kernel
theorem dX7_changes_42 : decode cX7_changes 42 = .ok (.ldc2_w 133, 3) := by decide +kernel
theorem dX7_changes_45 : decode cX7_changes 45 = .ok (.invokevirtual 43, 3) := by decide +kernel
theorem dX7_changes_48 : decode cX7_changes 48 = .ok (.goto 5, 3) := by decide +kernel
theorem dX7_changes_51 : decode cX7_changes 51 = .ok (.iload_n 3, 1) := by decide +kernel
theorem dX7_changes_52 : decode cX7_changes 52 = .ok (.i2l, 1) := by decide +kernel
theorem dX7_changes_53 : decode cX7_changes 53 = .ok (.lreturn, 1) := by decide +kernel
theorem dX7_map_0 : decode cX7_map 0 = .ok (.iload_n 1, 1) := by decide +kernel
theorem dX7_map_1 : decode cX7_map 1 = .ok (.invokestatic 183, 3) := by decide +kernel
theorem dX7_map_4 : decode cX7_map 4 = .ok (.ifCond .eq 10, 3) := by decide +kernel
theorem dX7_map_7 : decode cX7_map 7 = .ok (.iload_n 2, 1) := by decide +kernel
theorem dX7_map_8 : decode cX7_map 8 = .ok (.invokestatic 69, 3) := by decide +kernel
theorem dX7_map_11 : decode cX7_map 11 = .ok (.ifCond .ne 11, 3) := by decide +kernel
theorem dX7_map_14 : decode cX7_map 14 = .ok (.aload_n 0, 1) := by decide +kernel
theorem dX7_map_15 : decode cX7_map 15 = .ok (.ldc2_w 41, 3) := by decide +kernel
theorem dX7_map_18 : decode cX7_map 18 = .ok (.invokevirtual 43, 3) := by decide +kernel
theorem dX7_map_21 : decode cX7_map 21 = .ok (.lreturn, 1) := by decide +kernel
theorem dX7_map_22 : decode cX7_map 22 = .ok (.aload_n 0, 1) := by decide +kernel
theorem dX7_map_23 : decode cX7_map 23 = .ok (.getfield 25, 3) := by decide +kernel
theorem dX7_map_26 : decode cX7_map 26 = .ok (.iload_n 1, 1) := by decide +kernel
theorem dX7_map_27 : decode cX7_map 27 = .ok (.aaload, 1) := by decide +kernel
theorem dX7_map_28 : decode cX7_map 28 = .ok (.getfield 186, 3) := by decide +kernel
theorem dX7_map_31 : decode cX7_map 31 = .ok (.istore_n 3, 1) := by decide +kernel
theorem dX7_map_32 : decode cX7_map 32 = .ok (.aload_n 0, 1) := by decide +kernel
theorem dX7_map_33 : decode cX7_map 33 = .ok (.getfield 25, 3) := by decide +kernel
theorem dX7_map_36 : decode cX7_map 36 = .ok (.iload_n 1, 1) := by decide +kernel
theorem dX7_map_37 : decode cX7_map 37 = .ok (.aaload, 1) := by decide +kernel
theorem dX7_map_38 : decode cX7_map 38 = .ok (.iload_n 2, 1) := by decide +kernel
theorem dX7_map_39 : decode cX7_map 39 = .ok (.putfield 186, 3) := by decide +kernel
theorem dX7_map_42 : decode cX7_map 42 = .ok (.iload_n 3, 1) := by decide +kernel
theorem dX7_map_43 : decode cX7_map 43 = .ok (.i2l, 1) := by decide +kernel
theorem dX7_map_44 : decode cX7_map 44 = .ok (.lreturn, 1) := by decide +kernel
theorem dX7_claim_0 : decode cX7_claim 0 = .ok (.iload_n 1, 1) := by decide +kernel
theorem dX7_claim_1 : decode cX7_claim 1 = .ok (.invokestatic 183, 3) := by decide +kernel
theorem dX7_claim_4 : decode cX7_claim 4 = .ok (.ifCond .eq 18, 3) := by decide +kernel
theorem dX7_claim_7 : decode cX7_claim 7 = .ok (.iload_n 2, 1) := by decide +kernel
theorem dX7_claim_8 : decode cX7_claim 8 = .ok (.invokestatic 138, 3) := by decide +kernel
theorem dX7_claim_11 : decode cX7_claim 11 = .ok (.ifCond .eq 11, 3) := by decide +kernel
theorem dX7_claim_14 : decode cX7_claim 14 = .ok (.aload_n 0, 1) := by decide +kernel
theorem dX7_claim_15 : decode cX7_claim 15 = .ok (.iload_n 3, 1) := by decide +kernel
theorem dX7_claim_16 : decode cX7_claim 16 = .ok (.invokevirtual 187, 3) := by decide +kernel
theorem dX7_claim_19 : decode cX7_claim 19 = .ok (.ifCond .ne 11, 3) := by decide +kernel
theorem dX7_claim_22 : decode cX7_claim 22 = .ok (.aload_n 0, 1) := by decide +kernel
theorem dX7_claim_23 : decode cX7_claim 23 = .ok (.ldc2_w 41, 3) := by decide +kernel
theorem dX7_claim_26 : decode cX7_claim 26 = .ok (.invokevirtual 43, 3) := by decide +kernel
theorem dX7_claim_29 : decode cX7_claim 29 = .ok (.lreturn, 1) := by decide +kernel
theorem dX7_claim_30 : decode cX7_claim 30 = .ok (.aload_n 0, 1) := by decide +kernel
theorem dX7_claim_31 : decode cX7_claim 31 = .ok (.getfield 12, 3) := by decide +kernel
theorem dX7_claim_34 : decode cX7_claim 34 = .ok (.iload_n 3, 1) := by decide +kernel
theorem dX7_claim_35 : decode cX7_claim 35 = .ok (.invokevirtual 78, 3) := by decide +kernel
theorem dX7_claim_38 : decode cX7_claim 38 = .ok (.ifCond .eq 11, 3) := by decide +kernel
theorem dX7_claim_41 : decode cX7_claim 41 = .ok (.aload_n 0, 1) := by decide +kernel
theorem dX7_claim_42 : decode cX7_claim 42 = .ok (.ldc2_w 67, 3) := by decide +kernel
theorem dX7_claim_45 : decode cX7_claim 45 = .ok (.invokevirtual 43, 3) := by decide +kernel
theorem dX7_claim_48 : decode cX7_claim 48 = .ok (.lreturn, 1) := by decide +kernel
theorem dX7_claim_49 : decode cX7_claim 49 = .ok (.aload_n 0, 1) := by decide +kernel
theorem dX7_claim_50 : decode cX7_claim 50 = .ok (.getfield 25, 3) := by decide +kernel
theorem dX7_claim_53 : decode cX7_claim 53 = .ok (.iload_n 1, 1) := by decide +kernel
theorem dX7_claim_54 : decode cX7_claim 54 = .ok (.aaload, 1) := by decide +kernel
theorem dX7_claim_55 : decode cX7_claim 55 = .ok (.invokevirtual 190, 3) := by decide +kernel
theorem dX7_claim_58 : decode cX7_claim 58 = .ok (.iload_n 2, 1) := by decide +kernel
theorem dX7_claim_59 : decode cX7_claim 59 = .ok (.invokestatic 194, 3) := by decide +kernel
theorem dX7_claim_62 : decode cX7_claim 62 = .ok (.istore 4, 2) := by decide +kernel
theorem dX7_claim_64 : decode cX7_claim 64 = .ok (.aload_n 0, 1) := by decide +kernel
theorem dX7_claim_65 : decode cX7_claim 65 = .ok (.getfield 25, 3) := by decide +kernel
theorem dX7_claim_68 : decode cX7_claim 68 = .ok (.iload_n 1, 1) := by decide +kernel
theorem dX7_claim_69 : decode cX7_claim 69 = .ok (.aaload, 1) := by decide +kernel
theorem dX7_claim_70 : decode cX7_claim 70 = .ok (.iload_n 2, 1) := by decide +kernel
theorem dX7_claim_71 : decode cX7_claim 71 = .ok (.iload_n 3, 1) := by decide +kernel
theorem dX7_claim_72 : decode cX7_claim 72 = .ok (.invokevirtual 198, 3) := by decide +kernel
theorem dX7_claim_75 : decode cX7_claim 75 = .ok (.iload 4, 2) := by decide +kernel
theorem dX7_claim_77 : decode cX7_claim 77 = .ok (.invokestatic 113, 3) := by decide +kernel
theorem dX7_claim_80 : decode cX7_claim 80 = .ok (.lreturn, 1) := by decide +kernel
theorem dX7_read_0 : decode cX7_read 0 = .ok (.iload_n 1, 1) := by decide +kernel
theorem dX7_read_1 : decode cX7_read 1 = .ok (.invokestatic 183, 3) := by decide +kernel
theorem dX7_read_4 : decode cX7_read 4 = .ok (.ifCond .ne 11, 3) := by decide +kernel
theorem dX7_read_7 : decode cX7_read 7 = .ok (.aload_n 0, 1) := by decide +kernel
theorem dX7_read_8 : decode cX7_read 8 = .ok (.ldc2_w 41, 3) := by decide +kernel
theorem dX7_read_11 : decode cX7_read 11 = .ok (.invokevirtual 43, 3) := by decide +kernel
theorem dX7_read_14 : decode cX7_read 14 = .ok (.lreturn, 1) := by decide +kernel
theorem dX7_read_15 : decode cX7_read 15 = .ok (.aload_n 0, 1) := by decide +kernel
theorem dX7_read_16 : decode cX7_read 16 = .ok (.getfield 25, 3) := by decide +kernel
theorem dX7_read_19 : decode cX7_read 19 = .ok (.iload_n 1, 1) := by decide +kernel
theorem dX7_read_20 : decode cX7_read 20 = .ok (.aaload, 1) := by decide +kernel
theorem dX7_read_21 : decode cX7_read 21 = .ok (.astore_n 3, 1) := by decide +kernel
theorem dX7_read_22 : decode cX7_read 22 = .ok (.iload_n 2, 1) := by decide +kernel
theorem dX7_read_23 : decode cX7_read 23 = .ok (.tableswitch 75 0 3 #[29, 35, 41, 58], 29) := by decide +kernel
theorem dX7_read_52 : decode cX7_read 52 = .ok (.aload_n 3, 1) := by decide +kernel
theorem dX7_read_53 : decode cX7_read 53 = .ok (.getfield 186, 3) := by decide +kernel
theorem dX7_read_56 : decode cX7_read 56 = .ok (.i2l, 1) := by decide +kernel
theorem dX7_read_57 : decode cX7_read 57 = .ok (.lreturn, 1) := by decide +kernel
theorem dX7_read_58 : decode cX7_read 58 = .ok (.aload_n 3, 1) := by decide +kernel
theorem dX7_read_59 : decode cX7_read 59 = .ok (.invokevirtual 202, 3) := by decide +kernel
theorem dX7_read_62 : decode cX7_read 62 = .ok (.i2l, 1) := by decide +kernel
theorem dX7_read_63 : decode cX7_read 63 = .ok (.lreturn, 1) := by decide +kernel
theorem dX7_read_64 : decode cX7_read 64 = .ok (.aload_n 3, 1) := by decide +kernel
theorem dX7_read_65 : decode cX7_read 65 = .ok (.aload_n 0, 1) := by decide +kernel
theorem dX7_read_66 : decode cX7_read 66 = .ok (.getfield 12, 3) := by decide +kernel
theorem dX7_read_69 : decode cX7_read 69 = .ok (.aload_n 3, 1) := by decide +kernel
theorem dX7_read_70 : decode cX7_read 70 = .ok (.getfield 186, 3) := by decide +kernel
theorem dX7_read_73 : decode cX7_read 73 = .ok (.invokevirtual 141, 3) := by decide +kernel
theorem dX7_read_76 : decode cX7_read 76 = .ok (.invokevirtual 205, 3) := by decide +kernel
theorem dX7_read_79 : decode cX7_read 79 = .ok (.i2l, 1) := by decide +kernel
theorem dX7_read_80 : decode cX7_read 80 = .ok (.lreturn, 1) := by decide +kernel
theorem dX7_read_81 : decode cX7_read 81 = .ok (.aload_n 3, 1) := by decide +kernel
theorem dX7_read_82 : decode cX7_read 82 = .ok (.aload_n 0, 1) := by decide +kernel
theorem dX7_read_83 : decode cX7_read 83 = .ok (.getfield 12, 3) := by decide +kernel
theorem dX7_read_86 : decode cX7_read 86 = .ok (.aload_n 3, 1) := by decide +kernel
theorem dX7_read_87 : decode cX7_read 87 = .ok (.getfield 186, 3) := by decide +kernel
theorem dX7_read_90 : decode cX7_read 90 = .ok (.invokevirtual 141, 3) := by decide +kernel
theorem dX7_read_93 : decode cX7_read 93 = .ok (.invokevirtual 209, 3) := by decide +kernel
theorem dX7_read_96 : decode cX7_read 96 = .ok (.i2l, 1) := by decide +kernel
theorem dX7_read_97 : decode cX7_read 97 = .ok (.lreturn, 1) := by decide +kernel
theorem dX7_read_98 : decode cX7_read 98 = .ok (.aload_n 0, 1) := by decide +kernel
theorem dX7_read_99 : decode cX7_read 99 = .ok (.ldc2_w 41, 3) := by decide +kernel
theorem dX7_read_102 : decode cX7_read 102 = .ok (.invokevirtual 43, 3) := by decide +kernel
theorem dX7_read_105 : decode cX7_read 105 = .ok (.lreturn, 1) := by decide +kernel
theorem dX7_best_0 : decode cX7_best 0 = .ok (.iload_n 1, 1) := by decide +kernel
theorem dX7_best_1 : decode cX7_best 1 = .ok (.invokestatic 183, 3) := by decide +kernel
theorem dX7_best_4 : decode cX7_best 4 = .ok (.ifCond .eq 22, 3) := by decide +kernel
theorem dX7_best_7 : decode cX7_best 7 = .ok (.iload_n 2, 1) := by decide +kernel
theorem dX7_best_8 : decode cX7_best 8 = .ok (.invokestatic 69, 3) := by decide +kernel
theorem dX7_best_11 : decode cX7_best 11 = .ok (.ifCond .eq 15, 3) := by decide +kernel
theorem dX7_best_14 : decode cX7_best 14 = .ok (.iload_n 3, 1) := by decide +kernel
theorem dX7_best_15 : decode cX7_best 15 = .ok (.invokestatic 69, 3) := by decide +kernel
theorem dX7_best_18 : decode cX7_best 18 = .ok (.ifCond .eq 8, 3) := by decide +kernel
theorem dX7_best_21 : decode cX7_best 21 = .ok (.iload_n 2, 1) := by decide +kernel
theorem dX7_best_22 : decode cX7_best 22 = .ok (.iload_n 3, 1) := by decide +kernel
theorem dX7_best_23 : decode cX7_best 23 = .ok (.if_icmp .le 11, 3) := by decide +kernel
theorem dX7_best_26 : decode cX7_best 26 = .ok (.aload_n 0, 1) := by decide +kernel
theorem dX7_best_27 : decode cX7_best 27 = .ok (.ldc2_w 41, 3) := by decide +kernel
theorem dX7_best_30 : decode cX7_best 30 = .ok (.invokevirtual 43, 3) := by decide +kernel
theorem dX7_best_33 : decode cX7_best 33 = .ok (.lreturn, 1) := by decide +kernel
theorem dX7_best_34 : decode cX7_best 34 = .ok (.aload_n 0, 1) := by decide +kernel
theorem dX7_best_35 : decode cX7_best 35 = .ok (.aload_n 0, 1) := by decide +kernel
theorem dX7_best_36 : decode cX7_best 36 = .ok (.getfield 25, 3) := by decide +kernel
theorem dX7_best_39 : decode cX7_best 39 = .ok (.iload_n 1, 1) := by decide +kernel
theorem dX7_best_40 : decode cX7_best 40 = .ok (.aaload, 1) := by decide +kernel
theorem dX7_best_41 : decode cX7_best 41 = .ok (.iload_n 2, 1) := by decide +kernel
theorem dX7_best_42 : decode cX7_best 42 = .ok (.iload_n 3, 1) := by decide +kernel
theorem dX7_best_43 : decode cX7_best 43 = .ok (.invokevirtual 212, 3) := by decide +kernel
theorem dX7_best_46 : decode cX7_best 46 = .ok (.i2l, 1) := by decide +kernel
theorem dX7_best_47 : decode cX7_best 47 = .ok (.lreturn, 1) := by decide +kernel
theorem dX7_quarrel_0 : decode cX7_quarrel 0 = .ok (.iload_n 1, 1) := by decide +kernel
theorem dX7_quarrel_1 : decode cX7_quarrel 1 = .ok (.invokestatic 183, 3) := by decide +kernel
theorem dX7_quarrel_4 : decode cX7_quarrel 4 = .ok (.ifCond .eq 10, 3) := by decide +kernel
theorem dX7_quarrel_7 : decode cX7_quarrel 7 = .ok (.iload_n 2, 1) := by decide +kernel
theorem dX7_quarrel_8 : decode cX7_quarrel 8 = .ok (.invokestatic 183, 3) := by decide +kernel
theorem dX7_quarrel_11 : decode cX7_quarrel 11 = .ok (.ifCond .ne 11, 3) := by decide +kernel
theorem dX7_quarrel_14 : decode cX7_quarrel 14 = .ok (.aload_n 0, 1) := by decide +kernel
theorem dX7_quarrel_15 : decode cX7_quarrel 15 = .ok (.ldc2_w 41, 3) := by decide +kernel
theorem dX7_quarrel_18 : decode cX7_quarrel 18 = .ok (.invokevirtual 43, 3) := by decide +kernel
theorem dX7_quarrel_21 : decode cX7_quarrel 21 = .ok (.lreturn, 1) := by decide +kernel
theorem dX7_quarrel_22 : decode cX7_quarrel 22 = .ok (.aload_n 0, 1) := by decide +kernel
theorem dX7_quarrel_23 : decode cX7_quarrel 23 = .ok (.getfield 25, 3) := by decide +kernel
theorem dX7_quarrel_26 : decode cX7_quarrel 26 = .ok (.iload_n 1, 1) := by decide +kernel
theorem dX7_quarrel_27 : decode cX7_quarrel 27 = .ok (.aaload, 1) := by decide +kernel
theorem dX7_quarrel_28 : decode cX7_quarrel 28 = .ok (.aload_n 0, 1) := by decide +kernel
theorem dX7_quarrel_29 : decode cX7_quarrel 29 = .ok (.getfield 25, 3) := by decide +kernel
theorem dX7_quarrel_32 : decode cX7_quarrel 32 = .ok (.iload_n 2, 1) := by decide +kernel
theorem dX7_quarrel_33 : decode cX7_quarrel 33 = .ok (.aaload, 1) := by decide +kernel
theorem dX7_quarrel_34 : decode cX7_quarrel 34 = .ok (.invokevirtual 216, 3) := by decide +kernel
theorem dX7_quarrel_37 : decode cX7_quarrel 37 = .ok (.istore_n 3, 1) := by decide +kernel
theorem dX7_quarrel_38 : decode cX7_quarrel 38 = .ok (.iload_n 3, 1) := by decide +kernel
theorem dX7_quarrel_39 : decode cX7_quarrel 39 = .ok (.bipush 36, 2) := by decide +kernel
theorem dX7_quarrel_41 : decode cX7_quarrel 41 = .ok (.if_icmp .ne 13, 3) := by decide +kernel
theorem dX7_quarrel_44 : decode cX7_quarrel 44 = .ok (.aload_n 0, 1) := by decide +kernel
theorem dX7_quarrel_45 : decode cX7_quarrel 45 = .ok (.ldc2_w 133, 3) := by decide +kernel
theorem dX7_quarrel_48 : decode cX7_quarrel 48 = .ok (.invokevirtual 43, 3) := by decide +kernel
theorem dX7_quarrel_51 : decode cX7_quarrel 51 = .ok (.goto 5, 3) := by decide +kernel
theorem dX7_quarrel_54 : decode cX7_quarrel 54 = .ok (.iload_n 3, 1) := by decide +kernel
theorem dX7_quarrel_55 : decode cX7_quarrel 55 = .ok (.i2l, 1) := by decide +kernel
theorem dX7_quarrel_56 : decode cX7_quarrel 56 = .ok (.lreturn, 1) := by decide +kernel
theorem dX7_count_0 : decode cX7_count 0 = .ok (.aload_n 0, 1) := by decide +kernel
theorem dX7_count_1 : decode cX7_count 1 = .ok (.getfield 12, 3) := by decide +kernel
theorem dX7_count_4 : decode cX7_count 4 = .ok (.iload_n 1, 1) := by decide +kernel
theorem dX7_count_5 : decode cX7_count 5 = .ok (.invokevirtual 57, 3) := by decide +kernel
theorem dX7_count_8 : decode cX7_count 8 = .ok (.ifCond .eq 20, 3) := by decide +kernel
theorem dX7_count_11 : decode cX7_count 11 = .ok (.iload_n 2, 1) := by decide +kernel
theorem dX7_count_12 : decode cX7_count 12 = .ok (.invokestatic 69, 3) := by decide +kernel
theorem dX7_count_15 : decode cX7_count 15 = .ok (.ifCond .eq 13, 3) := by decide +kernel
theorem dX7_count_18 : decode cX7_count 18 = .ok (.iload_n 3, 1) := by decide +kernel
theorem dX7_count_19 : decode cX7_count 19 = .ok (.ifCond .lt 9, 3) := by decide +kernel
theorem dX7_count_22 : decode cX7_count 22 = .ok (.iload_n 3, 1) := by decide +kernel
theorem dX7_count_23 : decode cX7_count 23 = .ok (.ldc 220, 2) := by decide +kernel
theorem dX7_count_25 : decode cX7_count 25 = .ok (.if_icmp .le 11, 3) := by decide +kernel
theorem dX7_count_28 : decode cX7_count 28 = .ok (.aload_n 0, 1) := by decide +kernel
theorem dX7_count_29 : decode cX7_count 29 = .ok (.ldc2_w 41, 3) := by decide +kernel
theorem dX7_count_32 : decode cX7_count 32 = .ok (.invokevirtual 43, 3) := by decide +kernel
theorem dX7_count_35 : decode cX7_count 35 = .ok (.lreturn, 1) := by decide +kernel
theorem dX7_count_36 : decode cX7_count 36 = .ok (.aload_n 0, 1) := by decide +kernel
theorem dX7_count_37 : decode cX7_count 37 = .ok (.getfield 12, 3) := by decide +kernel
theorem dX7_count_40 : decode cX7_count 40 = .ok (.iload_n 1, 1) := by decide +kernel
theorem dX7_count_41 : decode cX7_count 41 = .ok (.invokevirtual 78, 3) := by decide +kernel
theorem dX7_count_44 : decode cX7_count 44 = .ok (.ifCond .eq 11, 3) := by decide +kernel
theorem dX7_count_47 : decode cX7_count 47 = .ok (.aload_n 0, 1) := by decide +kernel
theorem dX7_count_48 : decode cX7_count 48 = .ok (.ldc2_w 67, 3) := by decide +kernel
theorem dX7_count_51 : decode cX7_count 51 = .ok (.invokevirtual 43, 3) := by decide +kernel
theorem dX7_count_54 : decode cX7_count 54 = .ok (.lreturn, 1) := by decide +kernel
theorem dX7_count_55 : decode cX7_count 55 = .ok (.aload_n 0, 1) := by decide +kernel
theorem dX7_count_56 : decode cX7_count 56 = .ok (.getfield 19, 3) := by decide +kernel
theorem dX7_count_59 : decode cX7_count 59 = .ok (.invokevirtual 221, 3) := by decide +kernel
theorem dX7_count_62 : decode cX7_count 62 = .ok (.ifCond .eq 11, 3) := by decide +kernel
theorem dX7_count_65 : decode cX7_count 65 = .ok (.aload_n 0, 1) := by decide +kernel
theorem dX7_count_66 : decode cX7_count 66 = .ok (.ldc2_w 51, 3) := by decide +kernel
theorem dX7_count_69 : decode cX7_count 69 = .ok (.invokevirtual 43, 3) := by decide +kernel
theorem dX7_count_72 : decode cX7_count 72 = .ok (.lreturn, 1) := by decide +kernel
theorem dX7_count_73 : decode cX7_count 73 = .ok (.aload_n 0, 1) := by decide +kernel
theorem dX7_count_74 : decode cX7_count 74 = .ok (.getfield 19, 3) := by decide +kernel
theorem dX7_count_77 : decode cX7_count 77 = .ok (.iload_n 1, 1) := by decide +kernel
theorem dX7_count_78 : decode cX7_count 78 = .ok (.iload_n 2, 1) := by decide +kernel
theorem dX7_count_79 : decode cX7_count 79 = .ok (.iload_n 3, 1) := by decide +kernel
theorem dX7_count_80 : decode cX7_count 80 = .ok (.invokevirtual 224, 3) := by decide +kernel
theorem dX7_count_83 : decode cX7_count 83 = .ok (.i2l, 1) := by decide +kernel
theorem dX7_count_84 : decode cX7_count 84 = .ok (.lreturn, 1) := by decide +kernel
theorem dX7_carried_0 : decode cX7_carried 0 = .ok (.aload_n 0, 1) := by decide +kernel
theorem dX7_carried_1 : decode cX7_carried 1 = .ok (.getfield 12, 3) := by decide +kernel
theorem dX7_carried_4 : decode cX7_carried 4 = .ok (.iload_n 2, 1) := by decide +kernel
theorem dX7_carried_5 : decode cX7_carried 5 = .ok (.invokevirtual 57, 3) := by decide +kernel
theorem dX7_carried_8 : decode cX7_carried 8 = .ok (.ifCond .eq 17, 3) := by decide +kernel
theorem dX7_carried_11 : decode cX7_carried 11 = .ok (.iload_n 1, 1) := by decide +kernel
theorem dX7_carried_12 : decode cX7_carried 12 = .ok (.invokestatic 69, 3) := by decide +kernel
theorem dX7_carried_15 : decode cX7_carried 15 = .ok (.ifCond .eq 10, 3) := by decide +kernel
theorem dX7_carried_18 : decode cX7_carried 18 = .ok (.iload_n 3, 1) := by decide +kernel
theorem dX7_carried_19 : decode cX7_carried 19 = .ok (.invokestatic 69, 3) := by decide +kernel
theorem dX7_carried_22 : decode cX7_carried 22 = .ok (.ifCond .ne 11, 3) := by decide +kernel
theorem dX7_carried_25 : decode cX7_carried 25 = .ok (.aload_n 0, 1) := by decide +kernel
theorem dX7_carried_26 : decode cX7_carried 26 = .ok (.ldc2_w 41, 3) := by decide +kernel
theorem dX7_carried_29 : decode cX7_carried 29 = .ok (.invokevirtual 43, 3) := by decide +kernel
theorem dX7_carried_32 : decode cX7_carried 32 = .ok (.lreturn, 1) := by decide +kernel
theorem dX7_carried_33 : decode cX7_carried 33 = .ok (.aload_n 0, 1) := by decide +kernel
theorem dX7_carried_34 : decode cX7_carried 34 = .ok (.getfield 19, 3) := by decide +kernel
theorem dX7_carried_37 : decode cX7_carried 37 = .ok (.iload_n 1, 1) := by decide +kernel
theorem dX7_carried_38 : decode cX7_carried 38 = .ok (.aload_n 0, 1) := by decide +kernel
theorem dX7_carried_39 : decode cX7_carried 39 = .ok (.getfield 12, 3) := by decide +kernel
theorem dX7_carried_42 : decode cX7_carried 42 = .ok (.iload_n 1, 1) := by decide +kernel
theorem dX7_carried_43 : decode cX7_carried 43 = .ok (.invokevirtual 141, 3) := by decide +kernel
theorem dX7_carried_46 : decode cX7_carried 46 = .ok (.aload_n 0, 1) := by decide +kernel
theorem dX7_carried_47 : decode cX7_carried 47 = .ok (.getfield 12, 3) := by decide +kernel
theorem dX7_carried_50 : decode cX7_carried 50 = .ok (.iload_n 2, 1) := by decide +kernel
theorem dX7_carried_51 : decode cX7_carried 51 = .ok (.iload_n 3, 1) := by decide +kernel
theorem dX7_carried_52 : decode cX7_carried 52 = .ok (.invokevirtual 153, 3) := by decide +kernel
theorem dX7_carried_55 : decode cX7_carried 55 = .ok (.iload 4, 2) := by decide +kernel
theorem dX7_carried_57 : decode cX7_carried 57 = .ok (.invokevirtual 227, 3) := by decide +kernel
theorem dX7_carried_60 : decode cX7_carried 60 = .ok (.lreturn, 1) := by decide +kernel
theorem dX7_people_0 : decode cX7_people 0 = .ok (.iload_n 1, 1) := by decide +kernel
theorem dX7_people_1 : decode cX7_people 1 = .ok (.invokestatic 69, 3) := by decide +kernel
theorem dX7_people_4 : decode cX7_people 4 = .ok (.ifCond .ne 11, 3) := by decide +kernel
theorem dX7_people_7 : decode cX7_people 7 = .ok (.aload_n 0, 1) := by decide +kernel
theorem dX7_people_8 : decode cX7_people 8 = .ok (.ldc2_w 41, 3) := by decide +kernel
theorem dX7_people_11 : decode cX7_people 11 = .ok (.invokevirtual 43, 3) := by decide +kernel
theorem dX7_people_14 : decode cX7_people 14 = .ok (.lreturn, 1) := by decide +kernel
theorem dX7_people_15 : decode cX7_people 15 = .ok (.aload_n 0, 1) := by decide +kernel
theorem dX7_people_16 : decode cX7_people 16 = .ok (.getfield 19, 3) := by decide +kernel
theorem dX7_people_19 : decode cX7_people 19 = .ok (.iload_n 1, 1) := by decide +kernel
theorem dX7_people_20 : decode cX7_people 20 = .ok (.invokevirtual 231, 3) := by decide +kernel
theorem dX7_people_23 : decode cX7_people 23 = .ok (.lreturn, 1) := by decide +kernel
theorem dX7_sheet_0 : decode cX7_sheet 0 = .ok (.iload_n 1, 1) := by decide +kernel
theorem dX7_sheet_1 : decode cX7_sheet 1 = .ok (.invokestatic 235, 3) := by decide +kernel
theorem dX7_sheet_4 : decode cX7_sheet 4 = .ok (.ifCond .eq 25, 3) := by decide +kernel
theorem dX7_sheet_7 : decode cX7_sheet 7 = .ok (.iload_n 2, 1) := by decide +kernel
theorem dX7_sheet_8 : decode cX7_sheet 8 = .ok (.ifCond .eq 29, 3) := by decide +kernel
theorem dX7_sheet_11 : decode cX7_sheet 11 = .ok (.iload_n 2, 1) := by decide +kernel
theorem dX7_sheet_12 : decode cX7_sheet 12 = .ok (.bipush 8, 2) := by decide +kernel
theorem dX7_sheet_14 : decode cX7_sheet 14 = .ok (.if_icmp .eq 23, 3) := by decide +kernel
theorem dX7_sheet_17 : decode cX7_sheet 17 = .ok (.iload_n 2, 1) := by decide +kernel
theorem dX7_sheet_18 : decode cX7_sheet 18 = .ok (.bipush 16, 2) := by decide +kernel
theorem dX7_sheet_20 : decode cX7_sheet 20 = .ok (.if_icmp .eq 17, 3) := by decide +kernel
theorem dX7_sheet_23 : decode cX7_sheet 23 = .ok (.iload_n 2, 1) := by decide +kernel
theorem dX7_sheet_24 : decode cX7_sheet 24 = .ok (.bipush 32, 2) := by decide +kernel
theorem dX7_sheet_26 : decode cX7_sheet 26 = .ok (.if_icmp .eq 11, 3) := by decide +kernel
theorem dX7_sheet_29 : decode cX7_sheet 29 = .ok (.aload_n 0, 1) := by decide +kernel
theorem dX7_sheet_30 : decode cX7_sheet 30 = .ok (.ldc2_w 41, 3) := by decide +kernel
theorem dX7_sheet_33 : decode cX7_sheet 33 = .ok (.invokevirtual 43, 3) := by decide +kernel
theorem dX7_sheet_36 : decode cX7_sheet 36 = .ok (.lreturn, 1) := by decide +kernel
theorem dX7_sheet_37 : decode cX7_sheet 37 = .ok (.iload_n 3, 1) := by decide +kernel
theorem dX7_sheet_38 : decode cX7_sheet 38 = .ok (.ifCond .ge 11, 3) := by decide +kernel
theorem dX7_sheet_41 : decode cX7_sheet 41 = .ok (.aload_n 0, 1) := by decide +kernel
theorem dX7_sheet_42 : decode cX7_sheet 42 = .ok (.ldc2_w 169, 3) := by decide +kernel
theorem dX7_sheet_45 : decode cX7_sheet 45 = .ok (.invokevirtual 43, 3) := by decide +kernel
theorem dX7_sheet_48 : decode cX7_sheet 48 = .ok (.lreturn, 1) := by decide +kernel
theorem dX7_sheet_49 : decode cX7_sheet 49 = .ok (.iload_n 3, 1) := by decide +kernel
theorem dX7_sheet_50 : decode cX7_sheet 50 = .ok (.bipush 36, 2) := by decide +kernel
theorem dX7_sheet_52 : decode cX7_sheet 52 = .ok (.if_icmp .le 11, 3) := by decide +kernel
theorem dX7_sheet_55 : decode cX7_sheet 55 = .ok (.aload_n 0, 1) := by decide +kernel
theorem dX7_sheet_56 : decode cX7_sheet 56 = .ok (.ldc2_w 41, 3) := by decide +kernel
theorem dX7_sheet_59 : decode cX7_sheet 59 = .ok (.invokevirtual 43, 3) := by decide +kernel
theorem dX7_sheet_62 : decode cX7_sheet 62 = .ok (.lreturn, 1) := by decide +kernel
theorem dX7_sheet_63 : decode cX7_sheet 63 = .ok (.aload_n 0, 1) := by decide +kernel
theorem dX7_sheet_64 : decode cX7_sheet 64 = .ok (.getfield 31, 3) := by decide +kernel
theorem dX7_sheet_67 : decode cX7_sheet 67 = .ok (.iload_n 1, 1) := by decide +kernel
theorem dX7_sheet_68 : decode cX7_sheet 68 = .ok (.aaload, 1) := by decide +kernel
theorem dX7_sheet_69 : decode cX7_sheet 69 = .ok (.iload_n 2, 1) := by decide +kernel
theorem dX7_sheet_70 : decode cX7_sheet 70 = .ok (.iload_n 3, 1) := by decide +kernel
theorem dX7_sheet_71 : decode cX7_sheet 71 = .ok (.invokevirtual 238, 3) := by decide +kernel
theorem dX7_sheet_74 : decode cX7_sheet 74 = .ok (.i2l, 1) := by decide +kernel
theorem dX7_sheet_75 : decode cX7_sheet 75 = .ok (.lreturn, 1) := by decide +kernel
theorem dX7_put_0 : decode cX7_put 0 = .ok (.iload_n 1, 1) := by decide +kernel
theorem dX7_put_1 : decode cX7_put 1 = .ok (.invokestatic 235, 3) := by decide +kernel
theorem dX7_put_4 : decode cX7_put 4 = .ok (.ifCond .ne 11, 3) := by decide +kernel
theorem dX7_put_7 : decode cX7_put 7 = .ok (.aload_n 0, 1) := by decide +kernel
theorem dX7_put_8 : decode cX7_put 8 = .ok (.ldc2_w 41, 3) := by decide +kernel
theorem dX7_put_11 : decode cX7_put 11 = .ok (.invokevirtual 43, 3) := by decide +kernel
theorem dX7_put_14 : decode cX7_put 14 = .ok (.lreturn, 1) := by decide +kernel
theorem dX7_put_15 : decode cX7_put 15 = .ok (.aload_n 0, 1) := by decide +kernel
theorem dX7_put_16 : decode cX7_put 16 = .ok (.getfield 31, 3) := by decide +kernel
theorem dX7_put_19 : decode cX7_put 19 = .ok (.iload_n 1, 1) := by decide +kernel
theorem dX7_put_20 : decode cX7_put 20 = .ok (.aaload, 1) := by decide +kernel
theorem dX7_put_21 : decode cX7_put 21 = .ok (.astore 4, 2) := by decide +kernel
theorem dX7_put_23 : decode cX7_put 23 = .ok (.aload 4, 2) := by decide +kernel
theorem dX7_put_25 : decode cX7_put 25 = .ok (.invokevirtual 241, 3) := by decide +kernel
theorem dX7_put_28 : decode cX7_put 28 = .ok (.ifCond .eq 11, 3) := by decide +kernel
theorem dX7_put_31 : decode cX7_put 31 = .ok (.aload_n 0, 1) := by decide +kernel
theorem dX7_put_32 : decode cX7_put 32 = .ok (.ldc2_w 244, 3) := by decide +kernel
theorem dX7_put_35 : decode cX7_put 35 = .ok (.invokevirtual 43, 3) := by decide +kernel
theorem dX7_put_38 : decode cX7_put 38 = .ok (.lreturn, 1) := by decide +kernel
theorem dX7_put_39 : decode cX7_put 39 = .ok (.aload 4, 2) := by decide +kernel
theorem dX7_put_41 : decode cX7_put 41 = .ok (.iload_n 2, 1) := by decide +kernel
theorem dX7_put_42 : decode cX7_put 42 = .ok (.iconst 1, 1) := by decide +kernel
theorem dX7_put_43 : decode cX7_put 43 = .ok (.invokevirtual 246, 3) := by decide +kernel
theorem dX7_put_46 : decode cX7_put 46 = .ok (.ifCond .ne 11, 3) := by decide +kernel
theorem dX7_put_49 : decode cX7_put 49 = .ok (.aload_n 0, 1) := by decide +kernel
theorem dX7_put_50 : decode cX7_put 50 = .ok (.ldc2_w 41, 3) := by decide +kernel
theorem dX7_put_53 : decode cX7_put 53 = .ok (.invokevirtual 43, 3) := by decide +kernel
theorem dX7_put_56 : decode cX7_put 56 = .ok (.lreturn, 1) := by decide +kernel
theorem dX7_put_57 : decode cX7_put 57 = .ok (.aload 4, 2) := by decide +kernel
theorem dX7_put_59 : decode cX7_put 59 = .ok (.getfield 249, 3) := by decide +kernel
theorem dX7_put_62 : decode cX7_put 62 = .ok (.iload_n 2, 1) := by decide +kernel
theorem dX7_put_63 : decode cX7_put 63 = .ok (.aload 4, 2) := by decide +kernel
theorem dX7_put_65 : decode cX7_put 65 = .ok (.iload_n 3, 1) := by decide +kernel
theorem dX7_put_66 : decode cX7_put 66 = .ok (.invokevirtual 253, 3) := by decide +kernel
theorem dX7_put_69 : decode cX7_put 69 = .ok (.iastore, 1) := by decide +kernel
theorem dX7_put_70 : decode cX7_put 70 = .ok (.lconst 0, 1) := by decide +kernel
theorem dX7_put_71 : decode cX7_put 71 = .ok (.lreturn, 1) := by decide +kernel
theorem dX7_copy_0 : decode cX7_copy 0 = .ok (.iload_n 1, 1) := by decide +kernel
theorem dX7_copy_1 : decode cX7_copy 1 = .ok (.invokestatic 235, 3) := by decide +kernel
theorem dX7_copy_4 : decode cX7_copy 4 = .ok (.ifCond .eq 10, 3) := by decide +kernel
theorem dX7_copy_7 : decode cX7_copy 7 = .ok (.iload_n 3, 1) := by decide +kernel
theorem dX7_copy_8 : decode cX7_copy 8 = .ok (.invokestatic 235, 3) := by decide +kernel
theorem dX7_copy_11 : decode cX7_copy 11 = .ok (.ifCond .ne 11, 3) := by decide +kernel
theorem dX7_copy_14 : decode cX7_copy 14 = .ok (.aload_n 0, 1) := by decide +kernel
theorem dX7_copy_15 : decode cX7_copy 15 = .ok (.ldc2_w 41, 3) := by decide +kernel
theorem dX7_copy_18 : decode cX7_copy 18 = .ok (.invokevirtual 43, 3) := by decide +kernel
theorem dX7_copy_21 : decode cX7_copy 21 = .ok (.lreturn, 1) := by decide +kernel
theorem dX7_copy_22 : decode cX7_copy 22 = .ok (.aload_n 0, 1) := by decide +kernel
theorem dX7_copy_23 : decode cX7_copy 23 = .ok (.getfield 31, 3) := by decide +kernel
theorem dX7_copy_26 : decode cX7_copy 26 = .ok (.iload_n 1, 1) := by decide +kernel
theorem dX7_copy_27 : decode cX7_copy 27 = .ok (.aaload, 1) := by decide +kernel
theorem dX7_copy_28 : decode cX7_copy 28 = .ok (.astore 6, 2) := by decide +kernel
theorem dX7_copy_30 : decode cX7_copy 30 = .ok (.aload_n 0, 1) := by decide +kernel
theorem dX7_copy_31 : decode cX7_copy 31 = .ok (.getfield 31, 3) := by decide +kernel
theorem dX7_copy_34 : decode cX7_copy 34 = .ok (.iload_n 3, 1) := by decide +kernel
theorem dX7_copy_35 : decode cX7_copy 35 = .ok (.aaload, 1) := by decide +kernel
theorem dX7_copy_36 : decode cX7_copy 36 = .ok (.astore 7, 2) := by decide +kernel
theorem dX7_copy_38 : decode cX7_copy 38 = .ok (.aload 6, 2) := by decide +kernel
theorem dX7_copy_40 : decode cX7_copy 40 = .ok (.invokevirtual 241, 3) := by decide +kernel
theorem dX7_copy_43 : decode cX7_copy 43 = .ok (.ifCond .ne 11, 3) := by decide +kernel
theorem dX7_copy_46 : decode cX7_copy 46 = .ok (.aload 7, 2) := by decide +kernel
theorem dX7_copy_48 : decode cX7_copy 48 = .ok (.invokevirtual 241, 3) := by decide +kernel
theorem dX7_copy_51 : decode cX7_copy 51 = .ok (.ifCond .eq 11, 3) := by decide +kernel
theorem dX7_copy_54 : decode cX7_copy 54 = .ok (.aload_n 0, 1) := by decide +kernel
theorem dX7_copy_55 : decode cX7_copy 55 = .ok (.ldc2_w 244, 3) := by decide +kernel
theorem dX7_copy_58 : decode cX7_copy 58 = .ok (.invokevirtual 43, 3) := by decide +kernel
theorem dX7_copy_61 : decode cX7_copy 61 = .ok (.lreturn, 1) := by decide +kernel
theorem dX7_copy_62 : decode cX7_copy 62 = .ok (.aload 6, 2) := by decide +kernel
theorem dX7_copy_64 : decode cX7_copy 64 = .ok (.getfield 256, 3) := by decide +kernel
theorem dX7_copy_67 : decode cX7_copy 67 = .ok (.aload 7, 2) := by decide +kernel
theorem dX7_copy_69 : decode cX7_copy 69 = .ok (.getfield 256, 3) := by decide +kernel
theorem dX7_copy_72 : decode cX7_copy 72 = .ok (.if_icmp .eq 11, 3) := by decide +kernel
theorem dX7_copy_75 : decode cX7_copy 75 = .ok (.aload_n 0, 1) := by decide +kernel
theorem dX7_copy_76 : decode cX7_copy 76 = .ok (.ldc2_w 67, 3) := by decide +kernel
theorem dX7_copy_79 : decode cX7_copy 79 = .ok (.invokevirtual 43, 3) := by decide +kernel
theorem dX7_copy_82 : decode cX7_copy 82 = .ok (.lreturn, 1) := by decide +kernel
theorem dX7_copy_83 : decode cX7_copy 83 = .ok (.aload 6, 2) := by decide +kernel
theorem dX7_copy_85 : decode cX7_copy 85 = .ok (.iload_n 2, 1) := by decide +kernel
theorem dX7_copy_86 : decode cX7_copy 86 = .ok (.iload 5, 2) := by decide +kernel
theorem dX7_copy_88 : decode cX7_copy 88 = .ok (.invokevirtual 246, 3) := by decide +kernel
theorem dX7_copy_91 : decode cX7_copy 91 = .ok (.ifCond .eq 15, 3) := by decide +kernel
theorem dX7_copy_94 : decode cX7_copy 94 = .ok (.aload 7, 2) := by decide +kernel
theorem dX7_copy_96 : decode cX7_copy 96 = .ok (.iload 4, 2) := by decide +kernel
theorem dX7_copy_98 : decode cX7_copy 98 = .ok (.iload 5, 2) := by decide +kernel
theorem dX7_copy_100 : decode cX7_copy 100 = .ok (.invokevirtual 246, 3) := by decide +kernel
theorem dX7_copy_103 : decode cX7_copy 103 = .ok (.ifCond .ne 11, 3) := by decide +kernel
theorem dX7_copy_106 : decode cX7_copy 106 = .ok (.aload_n 0, 1) := by decide +kernel
theorem dX7_copy_107 : decode cX7_copy 107 = .ok (.ldc2_w 41, 3) := by decide +kernel
theorem dX7_copy_110 : decode cX7_copy 110 = .ok (.invokevirtual 43, 3) := by decide +kernel
theorem dX7_copy_113 : decode cX7_copy 113 = .ok (.lreturn, 1) := by decide +kernel
theorem dX7_copy_114 : decode cX7_copy 114 = .ok (.aload 6, 2) := by decide +kernel
theorem dX7_copy_116 : decode cX7_copy 116 = .ok (.getfield 249, 3) := by decide +kernel
theorem dX7_copy_119 : decode cX7_copy 119 = .ok (.iload_n 2, 1) := by decide +kernel
theorem dX7_copy_120 : decode cX7_copy 120 = .ok (.aload 7, 2) := by decide +kernel
theorem dX7_copy_122 : decode cX7_copy 122 = .ok (.getfield 249, 3) := by decide +kernel
theorem dX7_copy_125 : decode cX7_copy 125 = .ok (.iload 4, 2) := by decide +kernel
theorem dX7_copy_127 : decode cX7_copy 127 = .ok (.iload 5, 2) := by decide +kernel
theorem dX7_copy_129 : decode cX7_copy 129 = .ok (.invokestatic 259, 3) := by decide +kernel
theorem dX7_copy_132 : decode cX7_copy 132 = .ok (.iload 5, 2) := by decide +kernel
theorem dX7_copy_134 : decode cX7_copy 134 = .ok (.i2l, 1) := by decide +kernel
theorem dX7_copy_135 : decode cX7_copy 135 = .ok (.lreturn, 1) := by decide +kernel
theorem dX7_lay_0 : decode cX7_lay 0 = .ok (.iload_n 1, 1) := by decide +kernel
theorem dX7_lay_1 : decode cX7_lay 1 = .ok (.invokestatic 183, 3) := by decide +kernel
theorem dX7_lay_4 : decode cX7_lay 4 = .ok (.ifCond .eq 10, 3) := by decide +kernel
theorem dX7_lay_7 : decode cX7_lay 7 = .ok (.iload_n 2, 1) := by decide +kernel
theorem dX7_lay_8 : decode cX7_lay 8 = .ok (.invokestatic 235, 3) := by decide +kernel
theorem dX7_lay_11 : decode cX7_lay 11 = .ok (.ifCond .ne 11, 3) := by decide +kernel
theorem dX7_lay_14 : decode cX7_lay 14 = .ok (.aload_n 0, 1) := by decide +kernel
theorem dX7_lay_15 : decode cX7_lay 15 = .ok (.ldc2_w 41, 3) := by decide +kernel
theorem dX7_lay_18 : decode cX7_lay 18 = .ok (.invokevirtual 43, 3) := by decide +kernel
theorem dX7_lay_21 : decode cX7_lay 21 = .ok (.lreturn, 1) := by decide +kernel
theorem dX7_lay_22 : decode cX7_lay 22 = .ok (.aload_n 0, 1) := by decide +kernel
theorem dX7_lay_23 : decode cX7_lay 23 = .ok (.getfield 31, 3) := by decide +kernel
theorem dX7_lay_26 : decode cX7_lay 26 = .ok (.iload_n 2, 1) := by decide +kernel
theorem dX7_lay_27 : decode cX7_lay 27 = .ok (.aaload, 1) := by decide +kernel
theorem dX7_lay_28 : decode cX7_lay 28 = .ok (.astore_n 3, 1) := by decide +kernel
theorem dX7_lay_29 : decode cX7_lay 29 = .ok (.aload_n 3, 1) := by decide +kernel
theorem dX7_lay_30 : decode cX7_lay 30 = .ok (.invokevirtual 241, 3) := by decide +kernel
theorem dX7_lay_33 : decode cX7_lay 33 = .ok (.ifCond .eq 11, 3) := by decide +kernel
theorem dX7_lay_36 : decode cX7_lay 36 = .ok (.aload_n 0, 1) := by decide +kernel
theorem dX7_lay_37 : decode cX7_lay 37 = .ok (.ldc2_w 244, 3) := by decide +kernel
theorem dX7_lay_40 : decode cX7_lay 40 = .ok (.invokevirtual 43, 3) := by decide +kernel
theorem dX7_lay_43 : decode cX7_lay 43 = .ok (.lreturn, 1) := by decide +kernel
theorem dX7_lay_44 : decode cX7_lay 44 = .ok (.iconst 0, 1) := by decide +kernel
theorem dX7_lay_45 : decode cX7_lay 45 = .ok (.istore 4, 2) := by decide +kernel
theorem dX7_lay_47 : decode cX7_lay 47 = .ok (.iload 4, 2) := by decide +kernel
theorem dX7_lay_49 : decode cX7_lay 49 = .ok (.bipush 36, 2) := by decide +kernel
theorem dX7_lay_51 : decode cX7_lay 51 = .ok (.if_icmp .ge 44, 3) := by decide +kernel
theorem dX7_lay_54 : decode cX7_lay 54 = .ok (.aload_n 0, 1) := by decide +kernel
theorem dX7_lay_55 : decode cX7_lay 55 = .ok (.getfield 25, 3) := by decide +kernel
theorem dX7_lay_58 : decode cX7_lay 58 = .ok (.iload_n 1, 1) := by decide +kernel
theorem dX7_lay_59 : decode cX7_lay 59 = .ok (.aaload, 1) := by decide +kernel
theorem dX7_lay_60 : decode cX7_lay 60 = .ok (.iload 4, 2) := by decide +kernel
theorem dX7_lay_62 : decode cX7_lay 62 = .ok (.iload 4, 2) := by decide +kernel
theorem dX7_lay_64 : decode cX7_lay 64 = .ok (.aload_n 3, 1) := by decide +kernel
theorem dX7_lay_65 : decode cX7_lay 65 = .ok (.getfield 265, 3) := by decide +kernel
theorem dX7_lay_68 : decode cX7_lay 68 = .ok (.if_icmp .ge 17, 3) := by decide +kernel
theorem dX7_lay_71 : decode cX7_lay 71 = .ok (.aload_n 0, 1) := by decide +kernel
theorem dX7_lay_72 : decode cX7_lay 72 = .ok (.aload_n 3, 1) := by decide +kernel
theorem dX7_lay_73 : decode cX7_lay 73 = .ok (.getfield 249, 3) := by decide +kernel
theorem dX7_lay_76 : decode cX7_lay 76 = .ok (.iload 4, 2) := by decide +kernel
theorem dX7_lay_78 : decode cX7_lay 78 = .ok (.iaload, 1) := by decide +kernel
theorem dX7_lay_79 : decode cX7_lay 79 = .ok (.invokevirtual 267, 3) := by decide +kernel
theorem dX7_lay_82 : decode cX7_lay 82 = .ok (.goto 4, 3) := by decide +kernel
theorem dX7_lay_85 : decode cX7_lay 85 = .ok (.iconst (-1), 1) := by decide +kernel
theorem dX7_lay_86 : decode cX7_lay 86 = .ok (.invokevirtual 198, 3) := by decide +kernel
theorem dX7_lay_89 : decode cX7_lay 89 = .ok (.iinc 4 1, 3) := by decide +kernel
theorem dX7_lay_92 : decode cX7_lay 92 = .ok (.goto (-45), 3) := by decide +kernel
theorem dX7_lay_95 : decode cX7_lay 95 = .ok (.aload_n 0, 1) := by decide +kernel
theorem dX7_lay_96 : decode cX7_lay 96 = .ok (.getfield 25, 3) := by decide +kernel
theorem dX7_lay_99 : decode cX7_lay 99 = .ok (.iload_n 1, 1) := by decide +kernel
theorem dX7_lay_100 : decode cX7_lay 100 = .ok (.aaload, 1) := by decide +kernel
theorem dX7_lay_101 : decode cX7_lay 101 = .ok (.invokevirtual 202, 3) := by decide +kernel
theorem dX7_lay_104 : decode cX7_lay 104 = .ok (.i2l, 1) := by decide +kernel
theorem dX7_lay_105 : decode cX7_lay 105 = .ok (.lreturn, 1) := by decide +kernel
theorem dX7_told_0 : decode cX7_told 0 = .ok (.iload_n 1, 1) := by decide +kernel
theorem dX7_told_1 : decode cX7_told 1 = .ok (.tableswitch 77 0 4 #[35, 44, 53, 62, 71], 35) := by decide +kernel
theorem dX7_told_36 : decode cX7_told 36 = .ok (.aload_n 0, 1) := by decide +kernel
theorem dX7_told_37 : decode cX7_told 37 = .ok (.getfield 12, 3) := by decide +kernel
theorem dX7_told_40 : decode cX7_told 40 = .ok (.getfield 270, 3) := by decide +kernel
theorem dX7_told_43 : decode cX7_told 43 = .ok (.i2l, 1) := by decide +kernel
theorem dX7_told_44 : decode cX7_told 44 = .ok (.lreturn, 1) := by decide +kernel
theorem dX7_told_45 : decode cX7_told 45 = .ok (.aload_n 0, 1) := by decide +kernel
theorem dX7_told_46 : decode cX7_told 46 = .ok (.getfield 12, 3) := by decide +kernel
theorem dX7_told_49 : decode cX7_told 49 = .ok (.getfield 130, 3) := by decide +kernel
theorem dX7_told_52 : decode cX7_told 52 = .ok (.i2l, 1) := by decide +kernel
theorem dX7_told_53 : decode cX7_told 53 = .ok (.lreturn, 1) := by decide +kernel
theorem dX7_told_54 : decode cX7_told 54 = .ok (.aload_n 0, 1) := by decide +kernel
theorem dX7_told_55 : decode cX7_told 55 = .ok (.getfield 12, 3) := by decide +kernel
theorem dX7_told_58 : decode cX7_told 58 = .ok (.invokevirtual 273, 3) := by decide +kernel
theorem dX7_told_61 : decode cX7_told 61 = .ok (.i2l, 1) := by decide +kernel
theorem dX7_told_62 : decode cX7_told 62 = .ok (.lreturn, 1) := by decide +kernel
theorem dX7_told_63 : decode cX7_told 63 = .ok (.aload_n 0, 1) := by decide +kernel
theorem dX7_told_64 : decode cX7_told 64 = .ok (.getfield 19, 3) := by decide +kernel
theorem dX7_told_67 : decode cX7_told 67 = .ok (.getfield 276, 3) := by decide +kernel
theorem dX7_told_70 : decode cX7_told 70 = .ok (.i2l, 1) := by decide +kernel
theorem dX7_told_71 : decode cX7_told 71 = .ok (.lreturn, 1) := by decide +kernel
theorem dX7_told_72 : decode cX7_told 72 = .ok (.aload_n 0, 1) := by decide +kernel
theorem dX7_told_73 : decode cX7_told 73 = .ok (.getfield 277, 3) := by decide +kernel
theorem dX7_told_76 : decode cX7_told 76 = .ok (.i2l, 1) := by decide +kernel
theorem dX7_told_77 : decode cX7_told 77 = .ok (.lreturn, 1) := by decide +kernel
theorem dX7_told_78 : decode cX7_told 78 = .ok (.aload_n 0, 1) := by decide +kernel
theorem dX7_told_79 : decode cX7_told 79 = .ok (.ldc2_w 41, 3) := by decide +kernel
theorem dX7_told_82 : decode cX7_told 82 = .ok (.invokevirtual 43, 3) := by decide +kernel
theorem dX7_told_85 : decode cX7_told 85 = .ok (.lreturn, 1) := by decide +kernel
theorem dX7_refuse_0 : decode cX7_refuse 0 = .ok (.aload_n 0, 1) := by decide +kernel
theorem dX7_refuse_1 : decode cX7_refuse 1 = .ok (.dup, 1) := by decide +kernel
theorem dX7_refuse_2 : decode cX7_refuse 2 = .ok (.getfield 277, 3) := by decide +kernel
theorem dX7_refuse_5 : decode cX7_refuse 5 = .ok (.iconst 1, 1) := by decide +kernel
theorem dX7_refuse_6 : decode cX7_refuse 6 = .ok (.iadd, 1) := by decide +kernel
theorem dX7_refuse_7 : decode cX7_refuse 7 = .ok (.putfield 277, 3) := by decide +kernel
theorem dX7_refuse_10 : decode cX7_refuse 10 = .ok (.lload_n 1, 1) := by decide +kernel
theorem dX7_refuse_11 : decode cX7_refuse 11 = .ok (.lreturn, 1) := by decide +kernel
theorem dX7_tellPassing_0 : decode cX7_tellPassing 0 = .ok (.aload_n 0, 1) := by decide +kernel
theorem dX7_tellPassing_1 : decode cX7_tellPassing 1 = .ok (.getfield 12, 3) := by decide +kernel
theorem dX7_tellPassing_4 : decode cX7_tellPassing 4 = .ok (.iload_n 2, 1) := by decide +kernel
theorem dX7_tellPassing_5 : decode cX7_tellPassing 5 = .ok (.invokevirtual 57, 3) := by decide +kernel
theorem dX7_tellPassing_8 : decode cX7_tellPassing 8 = .ok (.ifCond .eq 30, 3) := by decide +kernel
theorem dX7_tellPassing_11 : decode cX7_tellPassing 11 = .ok (.aload_n 0, 1) := by decide +kernel
theorem dX7_tellPassing_12 : decode cX7_tellPassing 12 = .ok (.getfield 12, 3) := by decide +kernel
theorem dX7_tellPassing_15 : decode cX7_tellPassing 15 = .ok (.iload_n 3, 1) := by decide +kernel
theorem dX7_tellPassing_16 : decode cX7_tellPassing 16 = .ok (.invokevirtual 57, 3) := by decide +kernel
theorem dX7_tellPassing_19 : decode cX7_tellPassing 19 = .ok (.ifCond .eq 19, 3) := by decide +kernel
theorem dX7_tellPassing_22 : decode cX7_tellPassing 22 = .ok (.iload 4, 2) := by decide +kernel
theorem dX7_tellPassing_24 : decode cX7_tellPassing 24 = .ok (.invokestatic 69, 3) := by decide +kernel
theorem dX7_tellPassing_27 : decode cX7_tellPassing 27 = .ok (.ifCond .eq 11, 3) := by decide +kernel
theorem dX7_tellPassing_30 : decode cX7_tellPassing 30 = .ok (.lload 5, 2) := by decide +kernel
theorem dX7_tellPassing_32 : decode cX7_tellPassing 32 = .ok (.invokestatic 72, 3) := by decide +kernel
theorem dX7_tellPassing_35 : decode cX7_tellPassing 35 = .ok (.ifCond .ne 11, 3) := by decide +kernel
theorem dX7_tellPassing_38 : decode cX7_tellPassing 38 = .ok (.aload_n 0, 1) := by decide +kernel
theorem dX7_tellPassing_39 : decode cX7_tellPassing 39 = .ok (.ldc2_w 41, 3) := by decide +kernel
theorem dX7_tellPassing_42 : decode cX7_tellPassing 42 = .ok (.invokevirtual 43, 3) := by decide +kernel
theorem dX7_tellPassing_45 : decode cX7_tellPassing 45 = .ok (.lreturn, 1) := by decide +kernel
theorem dX7_tellPassing_46 : decode cX7_tellPassing 46 = .ok (.aload_n 0, 1) := by decide +kernel
theorem dX7_tellPassing_47 : decode cX7_tellPassing 47 = .ok (.getfield 12, 3) := by decide +kernel
theorem dX7_tellPassing_50 : decode cX7_tellPassing 50 = .ok (.iload_n 2, 1) := by decide +kernel
theorem dX7_tellPassing_51 : decode cX7_tellPassing 51 = .ok (.invokevirtual 78, 3) := by decide +kernel
theorem dX7_tellPassing_54 : decode cX7_tellPassing 54 = .ok (.ifCond .ne 14, 3) := by decide +kernel
theorem dX7_tellPassing_57 : decode cX7_tellPassing 57 = .ok (.aload_n 0, 1) := by decide +kernel
theorem dX7_tellPassing_58 : decode cX7_tellPassing 58 = .ok (.getfield 12, 3) := by decide +kernel
theorem dX7_tellPassing_61 : decode cX7_tellPassing 61 = .ok (.iload_n 3, 1) := by decide +kernel
theorem dX7_tellPassing_62 : decode cX7_tellPassing 62 = .ok (.invokevirtual 78, 3) := by decide +kernel
theorem dX7_tellPassing_65 : decode cX7_tellPassing 65 = .ok (.ifCond .eq 11, 3) := by decide +kernel
theorem dX7_tellPassing_68 : decode cX7_tellPassing 68 = .ok (.aload_n 0, 1) := by decide +kernel
theorem dX7_tellPassing_69 : decode cX7_tellPassing 69 = .ok (.ldc2_w 67, 3) := by decide +kernel
theorem dX7_tellPassing_72 : decode cX7_tellPassing 72 = .ok (.invokevirtual 43, 3) := by decide +kernel
theorem dX7_tellPassing_75 : decode cX7_tellPassing 75 = .ok (.lreturn, 1) := by decide +kernel
theorem dX7_tellPassing_76 : decode cX7_tellPassing 76 = .ok (.iload_n 2, 1) := by decide +kernel
theorem dX7_tellPassing_77 : decode cX7_tellPassing 77 = .ok (.iload_n 3, 1) := by decide +kernel
theorem dX7_tellPassing_78 : decode cX7_tellPassing 78 = .ok (.if_icmp .ne 11, 3) := by decide +kernel
theorem dX7_tellPassing_81 : decode cX7_tellPassing 81 = .ok (.aload_n 0, 1) := by decide +kernel
theorem dX7_tellPassing_82 : decode cX7_tellPassing 82 = .ok (.ldc2_w 169, 3) := by decide +kernel
theorem dX7_tellPassing_85 : decode cX7_tellPassing 85 = .ok (.invokevirtual 43, 3) := by decide +kernel
theorem dX7_tellPassing_88 : decode cX7_tellPassing 88 = .ok (.lreturn, 1) := by decide +kernel
theorem dX7_tellPassing_89 : decode cX7_tellPassing 89 = .ok (.aload_n 0, 1) := by decide +kernel
theorem dX7_tellPassing_90 : decode cX7_tellPassing 90 = .ok (.iload_n 1, 1) := by decide +kernel
theorem dX7_tellPassing_91 : decode cX7_tellPassing 91 = .ok (.iload_n 2, 1) := by decide +kernel
theorem dX7_tellPassing_92 : decode cX7_tellPassing 92 = .ok (.iload_n 3, 1) := by decide +kernel
theorem dX7_tellPassing_93 : decode cX7_tellPassing 93 = .ok (.iload 4, 2) := by decide +kernel
theorem dX7_tellPassing_95 : decode cX7_tellPassing 95 = .ok (.lload 5, 2) := by decide +kernel
theorem dX7_tellPassing_97 : decode cX7_tellPassing 97 = .ok (.invokevirtual 81, 3) := by decide +kernel
theorem dX7_tellPassing_100 : decode cX7_tellPassing 100 = .ok (.lreturn, 1) := by decide +kernel
theorem dX7_tellAct_0 : decode cX7_tellAct 0 = .ok (.aload_n 0, 1) := by decide +kernel
theorem dX7_tellAct_1 : decode cX7_tellAct 1 = .ok (.getfield 12, 3) := by decide +kernel
theorem dX7_tellAct_4 : decode cX7_tellAct 4 = .ok (.invokevirtual 280, 3) := by decide +kernel
theorem dX7_tellAct_7 : decode cX7_tellAct 7 = .ok (.ifCond .eq 11, 3) := by decide +kernel
theorem dX7_tellAct_10 : decode cX7_tellAct 10 = .ok (.aload_n 0, 1) := by decide +kernel
theorem dX7_tellAct_11 : decode cX7_tellAct 11 = .ok (.ldc2_w 51, 3) := by decide +kernel
theorem dX7_tellAct_14 : decode cX7_tellAct 14 = .ok (.invokevirtual 43, 3) := by decide +kernel
theorem dX7_tellAct_17 : decode cX7_tellAct 17 = .ok (.lreturn, 1) := by decide +kernel
theorem dX7_tellAct_18 : decode cX7_tellAct 18 = .ok (.aload_n 0, 1) := by decide +kernel
theorem dX7_tellAct_19 : decode cX7_tellAct 19 = .ok (.getfield 12, 3) := by decide +kernel
theorem dX7_tellAct_22 : decode cX7_tellAct 22 = .ok (.iload_n 1, 1) := by decide +kernel
theorem dX7_tellAct_23 : decode cX7_tellAct 23 = .ok (.iload_n 2, 1) := by decide +kernel
theorem dX7_tellAct_24 : decode cX7_tellAct 24 = .ok (.iload_n 3, 1) := by decide +kernel
theorem dX7_tellAct_25 : decode cX7_tellAct 25 = .ok (.iload 4, 2) := by decide +kernel
theorem dX7_tellAct_27 : decode cX7_tellAct 27 = .ok (.lload 5, 2) := by decide +kernel
theorem dX7_tellAct_29 : decode cX7_tellAct 29 = .ok (.invokevirtual 283, 3) := by decide +kernel
theorem dX7_tellAct_32 : decode cX7_tellAct 32 = .ok (.i2l, 1) := by decide +kernel
theorem dX7_tellAct_33 : decode cX7_tellAct 33 = .ok (.lreturn, 1) := by decide +kernel
theorem dX7_bestYear_0 : decode cX7_bestYear 0 = .ok (.iload_n 2, 1) := by decide +kernel
theorem dX7_bestYear_1 : decode cX7_bestYear 1 = .ok (.istore 4, 2) := by decide +kernel
theorem dX7_bestYear_3 : decode cX7_bestYear 3 = .ok (.aload_n 1, 1) := by decide +kernel
theorem dX7_bestYear_4 : decode cX7_bestYear 4 = .ok (.aload_n 0, 1) := by decide +kernel
theorem dX7_bestYear_5 : decode cX7_bestYear 5 = .ok (.getfield 12, 3) := by decide +kernel
theorem dX7_bestYear_8 : decode cX7_bestYear 8 = .ok (.iload_n 2, 1) := by decide +kernel
theorem dX7_bestYear_9 : decode cX7_bestYear 9 = .ok (.invokevirtual 141, 3) := by decide +kernel
theorem dX7_bestYear_12 : decode cX7_bestYear 12 = .ok (.invokevirtual 205, 3) := by decide +kernel
theorem dX7_bestYear_15 : decode cX7_bestYear 15 = .ok (.istore 5, 2) := by decide +kernel
theorem dX7_bestYear_17 : decode cX7_bestYear 17 = .ok (.iconst 0, 1) := by decide +kernel
theorem dX7_bestYear_18 : decode cX7_bestYear 18 = .ok (.istore 6, 2) := by decide +kernel
theorem dX7_bestYear_20 : decode cX7_bestYear 20 = .ok (.iload 6, 2) := by decide +kernel
theorem dX7_bestYear_22 : decode cX7_bestYear 22 = .ok (.aload_n 0, 1) := by decide +kernel
theorem dX7_bestYear_23 : decode cX7_bestYear 23 = .ok (.getfield 12, 3) := by decide +kernel
theorem dX7_bestYear_26 : decode cX7_bestYear 26 = .ok (.getfield 130, 3) := by decide +kernel
theorem dX7_bestYear_29 : decode cX7_bestYear 29 = .ok (.if_icmp .ge 65, 3) := by decide +kernel
theorem dX7_bestYear_32 : decode cX7_bestYear 32 = .ok (.aload_n 0, 1) := by decide +kernel
theorem dX7_bestYear_33 : decode cX7_bestYear 33 = .ok (.getfield 12, 3) := by decide +kernel
theorem dX7_bestYear_36 : decode cX7_bestYear 36 = .ok (.iload 6, 2) := by decide +kernel
theorem dX7_bestYear_38 : decode cX7_bestYear 38 = .ok (.invokevirtual 287, 3) := by decide +kernel
theorem dX7_bestYear_41 : decode cX7_bestYear 41 = .ok (.getfield 97, 3) := by decide +kernel
theorem dX7_bestYear_44 : decode cX7_bestYear 44 = .ok (.istore 7, 2) := by decide +kernel
theorem dX7_bestYear_46 : decode cX7_bestYear 46 = .ok (.iload 7, 2) := by decide +kernel
theorem dX7_bestYear_48 : decode cX7_bestYear 48 = .ok (.iload_n 2, 1) := by decide +kernel
theorem dX7_bestYear_49 : decode cX7_bestYear 49 = .ok (.if_icmp .le 39, 3) := by decide +kernel
theorem dX7_bestYear_52 : decode cX7_bestYear 52 = .ok (.iload 7, 2) := by decide +kernel
theorem dX7_bestYear_54 : decode cX7_bestYear 54 = .ok (.iload_n 3, 1) := by decide +kernel
theorem dX7_bestYear_55 : decode cX7_bestYear 55 = .ok (.if_icmp .gt 33, 3) := by decide +kernel
theorem dX7_bestYear_58 : decode cX7_bestYear 58 = .ok (.aload_n 1, 1) := by decide +kernel
theorem dX7_bestYear_59 : decode cX7_bestYear 59 = .ok (.aload_n 0, 1) := by decide +kernel
theorem dX7_bestYear_60 : decode cX7_bestYear 60 = .ok (.getfield 12, 3) := by decide +kernel
theorem dX7_bestYear_63 : decode cX7_bestYear 63 = .ok (.iload 7, 2) := by decide +kernel
theorem dX7_bestYear_65 : decode cX7_bestYear 65 = .ok (.invokevirtual 141, 3) := by decide +kernel
theorem dX7_bestYear_68 : decode cX7_bestYear 68 = .ok (.invokevirtual 205, 3) := by decide +kernel
theorem dX7_bestYear_71 : decode cX7_bestYear 71 = .ok (.istore 8, 2) := by decide +kernel
theorem dX7_bestYear_73 : decode cX7_bestYear 73 = .ok (.iload 8, 2) := by decide +kernel
theorem dX7_bestYear_75 : decode cX7_bestYear 75 = .ok (.iload 5, 2) := by decide +kernel
theorem dX7_bestYear_77 : decode cX7_bestYear 77 = .ok (.if_icmp .le 11, 3) := by decide +kernel
theorem dX7_bestYear_80 : decode cX7_bestYear 80 = .ok (.iload 7, 2) := by decide +kernel
theorem dX7_bestYear_82 : decode cX7_bestYear 82 = .ok (.istore 4, 2) := by decide +kernel
theorem dX7_bestYear_84 : decode cX7_bestYear 84 = .ok (.iload 8, 2) := by decide +kernel
theorem dX7_bestYear_86 : decode cX7_bestYear 86 = .ok (.istore 5, 2) := by decide +kernel
theorem dX7_bestYear_88 : decode cX7_bestYear 88 = .ok (.iinc 6 1, 3) := by decide +kernel
theorem dX7_bestYear_91 : decode cX7_bestYear 91 = .ok (.goto (-71), 3) := by decide +kernel
theorem dX7_bestYear_94 : decode cX7_bestYear 94 = .ok (.iload 4, 2) := by decide +kernel
theorem dX7_bestYear_96 : decode cX7_bestYear 96 = .ok (.ireturn, 1) := by decide +kernel
theorem dX7_isClaim_0 : decode cX7_isClaim 0 = .ok (.iload_n 1, 1) := by decide +kernel
theorem dX7_isClaim_1 : decode cX7_isClaim 1 = .ok (.iconst (-1), 1) := by decide +kernel
theorem dX7_isClaim_2 : decode cX7_isClaim 2 = .ok (.if_icmp .eq 20, 3) := by decide +kernel
theorem dX7_isClaim_5 : decode cX7_isClaim 5 = .ok (.iload_n 1, 1) := by decide +kernel
theorem dX7_isClaim_6 : decode cX7_isClaim 6 = .ok (.bipush 10, 2) := by decide +kernel
theorem dX7_isClaim_8 : decode cX7_isClaim 8 = .ok (.if_icmp .eq 14, 3) := by decide +kernel
theorem dX7_isClaim_11 : decode cX7_isClaim 11 = .ok (.aload_n 0, 1) := by decide +kernel
theorem dX7_isClaim_12 : decode cX7_isClaim 12 = .ok (.getfield 12, 3) := by decide +kernel
theorem dX7_isClaim_15 : decode cX7_isClaim 15 = .ok (.iload_n 1, 1) := by decide +kernel
theorem dX7_isClaim_16 : decode cX7_isClaim 16 = .ok (.invokevirtual 57, 3) := by decide +kernel
theorem dX7_isClaim_19 : decode cX7_isClaim 19 = .ok (.ifCond .eq 7, 3) := by decide +kernel
theorem dX7_isClaim_22 : decode cX7_isClaim 22 = .ok (.iconst 1, 1) := by decide +kernel
theorem dX7_isClaim_23 : decode cX7_isClaim 23 = .ok (.goto 4, 3) := by decide +kernel
theorem dX7_isClaim_26 : decode cX7_isClaim 26 = .ok (.iconst 0, 1) := by decide +kernel
theorem dX7_isClaim_27 : decode cX7_isClaim 27 = .ok (.ireturn, 1) := by decide +kernel
theorem dX7_claimOf_0 : decode cX7_claimOf 0 = .ok (.aload_n 0, 1) := by decide +kernel
theorem dX7_claimOf_1 : decode cX7_claimOf 1 = .ok (.iload_n 1, 1) := by decide +kernel
theorem dX7_claimOf_2 : decode cX7_claimOf 2 = .ok (.invokevirtual 187, 3) := by decide +kernel
theorem dX7_claimOf_5 : decode cX7_claimOf 5 = .ok (.ifCond .eq 18, 3) := by decide +kernel
theorem dX7_claimOf_8 : decode cX7_claimOf 8 = .ok (.aload_n 0, 1) := by decide +kernel
theorem dX7_claimOf_9 : decode cX7_claimOf 9 = .ok (.getfield 12, 3) := by decide +kernel
theorem dX7_claimOf_12 : decode cX7_claimOf 12 = .ok (.iload_n 1, 1) := by decide +kernel
theorem dX7_claimOf_13 : decode cX7_claimOf 13 = .ok (.invokevirtual 78, 3) := by decide +kernel
theorem dX7_claimOf_16 : decode cX7_claimOf 16 = .ok (.ifCond .ne 7, 3) := by decide +kernel
theorem dX7_claimOf_19 : decode cX7_claimOf 19 = .ok (.iload_n 1, 1) := by decide +kernel
theorem dX7_claimOf_20 : decode cX7_claimOf 20 = .ok (.goto 4, 3) := by decide +kernel
theorem dX7_claimOf_23 : decode cX7_claimOf 23 = .ok (.iconst (-1), 1) := by decide +kernel
theorem dX7_claimOf_24 : decode cX7_claimOf 24 = .ok (.ireturn, 1) := by decide +kernel
theorem dX7_isOrUnder_0 : decode cX7_isOrUnder 0 = .ok (.iload_n 0, 1) := by decide +kernel
theorem dX7_isOrUnder_1 : decode cX7_isOrUnder 1 = .ok (.istore_n 2, 1) := by decide +kernel
theorem dX7_isOrUnder_2 : decode cX7_isOrUnder 2 = .ok (.iconst 0, 1) := by decide +kernel
theorem dX7_isOrUnder_3 : decode cX7_isOrUnder 3 = .ok (.istore_n 3, 1) := by decide +kernel
theorem dX7_isOrUnder_4 : decode cX7_isOrUnder 4 = .ok (.iload_n 3, 1) := by decide +kernel
theorem dX7_isOrUnder_5 : decode cX7_isOrUnder 5 = .ok (.iconst 4, 1) := by decide +kernel
theorem dX7_isOrUnder_6 : decode cX7_isOrUnder 6 = .ok (.if_icmp .ge 31, 3) := by decide +kernel
theorem dX7_isOrUnder_9 : decode cX7_isOrUnder 9 = .ok (.iload_n 2, 1) := by decide +kernel
theorem dX7_isOrUnder_10 : decode cX7_isOrUnder 10 = .ok (.iload_n 1, 1) := by decide +kernel
theorem dX7_isOrUnder_11 : decode cX7_isOrUnder 11 = .ok (.if_icmp .ne 5, 3) := by decide +kernel
theorem dX7_isOrUnder_14 : decode cX7_isOrUnder 14 = .ok (.iconst 1, 1) := by decide +kernel
theorem dX7_isOrUnder_15 : decode cX7_isOrUnder 15 = .ok (.ireturn, 1) := by decide +kernel
theorem dX7_isOrUnder_16 : decode cX7_isOrUnder 16 = .ok (.iload_n 2, 1) := by decide +kernel
theorem dX7_isOrUnder_17 : decode cX7_isOrUnder 17 = .ok (.invokestatic 37, 3) := by decide +kernel
theorem dX7_isOrUnder_20 : decode cX7_isOrUnder 20 = .ok (.ifCond .ne 5, 3) := by decide +kernel
theorem dX7_isOrUnder_23 : decode cX7_isOrUnder 23 = .ok (.iconst 0, 1) := by decide +kernel
theorem dX7_isOrUnder_24 : decode cX7_isOrUnder 24 = .ok (.ireturn, 1) := by decide +kernel
theorem dX7_isOrUnder_25 : decode cX7_isOrUnder 25 = .ok (.getstatic 291, 3) := by decide +kernel
theorem dX7_isOrUnder_28 : decode cX7_isOrUnder 28 = .ok (.iload_n 2, 1) := by decide +kernel
theorem dX7_isOrUnder_29 : decode cX7_isOrUnder 29 = .ok (.iaload, 1) := by decide +kernel
theorem dX7_isOrUnder_30 : decode cX7_isOrUnder 30 = .ok (.istore_n 2, 1) := by decide +kernel
theorem dX7_isOrUnder_31 : decode cX7_isOrUnder 31 = .ok (.iinc 3 1, 3) := by decide +kernel
theorem dX7_isOrUnder_34 : decode cX7_isOrUnder 34 = .ok (.goto (-30), 3) := by decide +kernel
theorem dX7_isOrUnder_37 : decode cX7_isOrUnder 37 = .ok (.iconst 0, 1) := by decide +kernel
theorem dX7_isOrUnder_38 : decode cX7_isOrUnder 38 = .ok (.ireturn, 1) := by decide +kernel
theorem dX7_isKind_0 : decode cX7_isKind 0 = .ok (.iload_n 0, 1) := by decide +kernel
theorem dX7_isKind_1 : decode cX7_isKind 1 = .ok (.ifCond .lt 12, 3) := by decide +kernel
theorem dX7_isKind_4 : decode cX7_isKind 4 = .ok (.iload_n 0, 1) := by decide +kernel
theorem dX7_isKind_5 : decode cX7_isKind 5 = .ok (.iconst 4, 1) := by decide +kernel
theorem dX7_isKind_6 : decode cX7_isKind 6 = .ok (.if_icmp .ge 7, 3) := by decide +kernel
theorem dX7_isKind_9 : decode cX7_isKind 9 = .ok (.iconst 1, 1) := by decide +kernel
theorem dX7_isKind_10 : decode cX7_isKind 10 = .ok (.goto 4, 3) := by decide +kernel
theorem dX7_isKind_13 : decode cX7_isKind 13 = .ok (.iconst 0, 1) := by decide +kernel
theorem dX7_isKind_14 : decode cX7_isKind 14 = .ok (.ireturn, 1) := by decide +kernel
theorem dX7_isYear_0 : decode cX7_isYear 0 = .ok (.iload_n 0, 1) := by decide +kernel
theorem dX7_isYear_1 : decode cX7_isYear 1 = .ok (.sipush 1000, 3) := by decide +kernel
theorem dX7_isYear_4 : decode cX7_isYear 4 = .ok (.if_icmp .lt 14, 3) := by decide +kernel
theorem dX7_isYear_7 : decode cX7_isYear 7 = .ok (.iload_n 0, 1) := by decide +kernel
theorem dX7_isYear_8 : decode cX7_isYear 8 = .ok (.sipush 1999, 3) := by decide +kernel
theorem dX7_isYear_11 : decode cX7_isYear 11 = .ok (.if_icmp .gt 7, 3) := by decide +kernel
theorem dX7_isYear_14 : decode cX7_isYear 14 = .ok (.iconst 1, 1) := by decide +kernel
theorem dX7_isYear_15 : decode cX7_isYear 15 = .ok (.goto 4, 3) := by decide +kernel
theorem dX7_isYear_18 : decode cX7_isYear 18 = .ok (.iconst 0, 1) := by decide +kernel
theorem dX7_isYear_19 : decode cX7_isYear 19 = .ok (.ireturn, 1) := by decide +kernel
theorem dX7_isMap_0 : decode cX7_isMap 0 = .ok (.iload_n 0, 1) := by decide +kernel
theorem dX7_isMap_1 : decode cX7_isMap 1 = .ok (.ifCond .lt 12, 3) := by decide +kernel
theorem dX7_isMap_4 : decode cX7_isMap 4 = .ok (.iload_n 0, 1) := by decide +kernel
theorem dX7_isMap_5 : decode cX7_isMap 5 = .ok (.iconst 4, 1) := by decide +kernel
theorem dX7_isMap_6 : decode cX7_isMap 6 = .ok (.if_icmp .ge 7, 3) := by decide +kernel
theorem dX7_isMap_9 : decode cX7_isMap 9 = .ok (.iconst 1, 1) := by decide +kernel
theorem dX7_isMap_10 : decode cX7_isMap 10 = .ok (.goto 4, 3) := by decide +kernel
theorem dX7_isMap_13 : decode cX7_isMap 13 = .ok (.iconst 0, 1) := by decide +kernel
theorem dX7_isMap_14 : decode cX7_isMap 14 = .ok (.ireturn, 1) := by decide +kernel
theorem dX7_isSheet_0 : decode cX7_isSheet 0 = .ok (.iload_n 0, 1) := by decide +kernel
theorem dX7_isSheet_1 : decode cX7_isSheet 1 = .ok (.ifCond .lt 12, 3) := by decide +kernel
theorem dX7_isSheet_4 : decode cX7_isSheet 4 = .ok (.iload_n 0, 1) := by decide +kernel
theorem dX7_isSheet_5 : decode cX7_isSheet 5 = .ok (.iconst 4, 1) := by decide +kernel
theorem dX7_isSheet_6 : decode cX7_isSheet 6 = .ok (.if_icmp .ge 7, 3) := by decide +kernel
theorem dX7_isSheet_9 : decode cX7_isSheet 9 = .ok (.iconst 1, 1) := by decide +kernel
theorem dX7_isSheet_10 : decode cX7_isSheet 10 = .ok (.goto 4, 3) := by decide +kernel
theorem dX7_isSheet_13 : decode cX7_isSheet 13 = .ok (.iconst 0, 1) := by decide +kernel
theorem dX7_isSheet_14 : decode cX7_isSheet 14 = .ok (.ireturn, 1) := by decide +kernel
theorem dX7_oneIf_0 : decode cX7_oneIf 0 = .ok (.iload_n 0, 1) := by decide +kernel
theorem dX7_oneIf_1 : decode cX7_oneIf 1 = .ok (.ifCond .eq 7, 3) := by decide +kernel
theorem dX7_oneIf_4 : decode cX7_oneIf 4 = .ok (.lconst 1, 1) := by decide +kernel
theorem dX7_oneIf_5 : decode cX7_oneIf 5 = .ok (.goto 4, 3) := by decide +kernel
theorem dX7_oneIf_8 : decode cX7_oneIf 8 = .ok (.lconst 0, 1) := by decide +kernel
theorem dX7_oneIf_9 : decode cX7_oneIf 9 = .ok (.lreturn, 1) := by decide +kernel
theorem dX8_init_0 : decode cX8_init 0 = .ok (.aload_n 0, 1) := by decide +kernel
theorem dX8_init_1 : decode cX8_init 1 = .ok (.invokespecial 3, 3) := by decide +kernel
theorem dX8_init_4 : decode cX8_init 4 = .ok (.aload_n 0, 1) := by decide +kernel
theorem dX8_init_5 : decode cX8_init 5 = .ok (.bipush 10, 2) := by decide +kernel
theorem dX8_init_7 : decode cX8_init 7 = .ok (.newarray .int, 2) := by decide +kernel
theorem dX8_init_9 : decode cX8_init 9 = .ok (.putfield 9, 3) := by decide +kernel
theorem dX8_init_12 : decode cX8_init 12 = .ok (.aload_n 0, 1) := by decide +kernel
theorem dX8_init_13 : decode cX8_init 13 = .ok (.bipush 30, 2) := by decide +kernel
theorem dX8_init_15 : decode cX8_init 15 = .ok (.newarray .int, 2) := by decide +kernel
theorem dX8_init_17 : decode cX8_init 17 = .ok (.putfield 13, 3) := by decide +kernel
theorem dX8_init_20 : decode cX8_init 20 = .ok (.aload_n 0, 1) := by decide +kernel
theorem dX8_init_21 : decode cX8_init 21 = .ok (.bipush 30, 2) := by decide +kernel
theorem dX8_init_23 : decode cX8_init 23 = .ok (.newarray .int, 2) := by decide +kernel
theorem dX8_init_25 : decode cX8_init 25 = .ok (.putfield 16, 3) := by decide +kernel
theorem dX8_init_28 : decode cX8_init 28 = .ok (.aload_n 0, 1) := by decide +kernel
theorem dX8_init_29 : decode cX8_init 29 = .ok (.bipush 30, 2) := by decide +kernel
theorem dX8_init_31 : decode cX8_init 31 = .ok (.newarray .int, 2) := by decide +kernel
theorem dX8_init_33 : decode cX8_init 33 = .ok (.putfield 19, 3) := by decide +kernel
theorem dX8_init_36 : decode cX8_init 36 = .ok (.aload_n 0, 1) := by decide +kernel
theorem dX8_init_37 : decode cX8_init 37 = .ok (.bipush 30, 2) := by decide +kernel
theorem dX8_init_39 : decode cX8_init 39 = .ok (.newarray .int, 2) := by decide +kernel
theorem dX8_init_41 : decode cX8_init 41 = .ok (.putfield 22, 3) := by decide +kernel
theorem dX8_init_44 : decode cX8_init 44 = .ok (.aload_n 0, 1) := by decide +kernel
theorem dX8_init_45 : decode cX8_init 45 = .ok (.bipush 30, 2) := by decide +kernel
theorem dX8_init_47 : decode cX8_init 47 = .ok (.newarray .long, 2) := by decide +kernel
theorem dX8_init_49 : decode cX8_init 49 = .ok (.putfield 25, 3) := by decide +kernel
theorem dX8_init_52 : decode cX8_init 52 = .ok (.aload_n 0, 1) := by decide +kernel
theorem dX8_init_53 : decode cX8_init 53 = .ok (.iconst 4, 1) := by decide +kernel
theorem dX8_init_54 : decode cX8_init 54 = .ok (.newarray .int, 2) := by decide +kernel
end
section
theorem dX8_init_56 : decode cX8_init 56 = .ok (.putfield 29, 3) := by decide +kernel
theorem dX8_init_59 : decode cX8_init 59 = .ok (.aload_n 0, 1) := by decide +kernel
theorem dX8_init_60 : decode cX8_init 60 = .ok (.sipush 144, 3) := by decide +kernel
theorem dX8_init_63 : decode cX8_init 63 = .ok (.newarray .int, 2) := by decide +kernel
theorem dX8_init_65 : decode cX8_init 65 = .ok (.putfield 32, 3) := by decide +kernel
theorem dX8_init_68 : decode cX8_init 68 = .ok (.aload_n 0, 1) := by decide +kernel
theorem dX8_init_69 : decode cX8_init 69 = .ok (.bipush 20, 2) := by decide +kernel
theorem dX8_init_71 : decode cX8_init 71 = .ok (.newarray .int, 2) := by decide +kernel
theorem dX8_init_73 : decode cX8_init 73 = .ok (.putfield 35, 3) := by decide +kernel
theorem dX8_init_76 : decode cX8_init 76 = .ok (.aload_n 0, 1) := by decide +kernel
theorem dX8_init_77 : decode cX8_init 77 = .ok (.bipush 20, 2) := by decide +kernel
theorem dX8_init_79 : decode cX8_init 79 = .ok (.newarray .int, 2) := by decide +kernel
theorem dX8_init_81 : decode cX8_init 81 = .ok (.putfield 38, 3) := by decide +kernel
theorem dX8_init_84 : decode cX8_init 84 = .ok (.aload_n 0, 1) := by decide +kernel
theorem dX8_init_85 : decode cX8_init 85 = .ok (.bipush 20, 2) := by decide +kernel
theorem dX8_init_87 : decode cX8_init 87 = .ok (.newarray .int, 2) := by decide +kernel
theorem dX8_init_89 : decode cX8_init 89 = .ok (.putfield 41, 3) := by decide +kernel
theorem dX8_init_92 : decode cX8_init 92 = .ok (.aload_n 0, 1) := by decide +kernel
theorem dX8_init_93 : decode cX8_init 93 = .ok (.iconst 4, 1) := by decide +kernel
theorem dX8_init_94 : decode cX8_init 94 = .ok (.newarray .int, 2) := by decide +kernel
theorem dX8_init_96 : decode cX8_init 96 = .ok (.putfield 44, 3) := by decide +kernel
theorem dX8_init_99 : decode cX8_init 99 = .ok (.aload_n 0, 1) := by decide +kernel
theorem dX8_init_100 : decode cX8_init 100 = .ok (.iconst 4, 1) := by decide +kernel
theorem dX8_init_101 : decode cX8_init 101 = .ok (.newarray .int, 2) := by decide +kernel
theorem dX8_init_103 : decode cX8_init 103 = .ok (.putfield 47, 3) := by decide +kernel
theorem dX8_init_106 : decode cX8_init 106 = .ok (.aload_n 0, 1) := by decide +kernel
theorem dX8_init_107 : decode cX8_init 107 = .ok (.sipush 144, 3) := by decide +kernel
theorem dX8_init_110 : decode cX8_init 110 = .ok (.newarray .int, 2) := by decide +kernel
theorem dX8_init_112 : decode cX8_init 112 = .ok (.putfield 50, 3) := by decide +kernel
theorem dX8_init_115 : decode cX8_init 115 = .ok (.aload_n 0, 1) := by decide +kernel
theorem dX8_init_116 : decode cX8_init 116 = .ok (.bipush 30, 2) := by decide +kernel
theorem dX8_init_118 : decode cX8_init 118 = .ok (.newarray .int, 2) := by decide +kernel
theorem dX8_init_120 : decode cX8_init 120 = .ok (.putfield 53, 3) := by decide +kernel
theorem dX8_init_123 : decode cX8_init 123 = .ok (.aload_n 0, 1) := by decide +kernel
theorem dX8_init_124 : decode cX8_init 124 = .ok (.bipush 30, 2) := by decide +kernel
theorem dX8_init_126 : decode cX8_init 126 = .ok (.newarray .int, 2) := by decide +kernel
theorem dX8_init_128 : decode cX8_init 128 = .ok (.putfield 56, 3) := by decide +kernel
theorem dX8_init_131 : decode cX8_init 131 = .ok (.aload_n 0, 1) := by decide +kernel
theorem dX8_init_132 : decode cX8_init 132 = .ok (.sipush 1116, 3) := by decide +kernel
theorem dX8_init_135 : decode cX8_init 135 = .ok (.newarray .int, 2) := by decide +kernel
theorem dX8_init_137 : decode cX8_init 137 = .ok (.putfield 59, 3) := by decide +kernel
theorem dX8_init_140 : decode cX8_init 140 = .ok (.aload_n 0, 1) := by decide +kernel
theorem dX8_init_141 : decode cX8_init 141 = .ok (.sipush 310, 3) := by decide +kernel
theorem dX8_init_144 : decode cX8_init 144 = .ok (.newarray .int, 2) := by decide +kernel
theorem dX8_init_146 : decode cX8_init 146 = .ok (.putfield 62, 3) := by decide +kernel
theorem dX8_init_149 : decode cX8_init 149 = .ok (.aload_n 0, 1) := by decide +kernel
theorem dX8_init_150 : decode cX8_init 150 = .ok (.bipush 30, 2) := by decide +kernel
theorem dX8_init_152 : decode cX8_init 152 = .ok (.newarray .int, 2) := by decide +kernel
theorem dX8_init_154 : decode cX8_init 154 = .ok (.putfield 65, 3) := by decide +kernel
theorem dX8_init_157 : decode cX8_init 157 = .ok (.aload_n 0, 1) := by decide +kernel
theorem dX8_init_158 : decode cX8_init 158 = .ok (.sipush 310, 3) := by decide +kernel
theorem dX8_init_161 : decode cX8_init 161 = .ok (.newarray .boolean, 2) := by decide +kernel
theorem dX8_init_163 : decode cX8_init 163 = .ok (.putfield 68, 3) := by decide +kernel
theorem dX8_init_166 : decode cX8_init 166 = .ok (.aload_n 0, 1) := by decide +kernel
theorem dX8_init_167 : decode cX8_init 167 = .ok (.bipush 30, 2) := by decide +kernel
theorem dX8_init_169 : decode cX8_init 169 = .ok (.newarray .boolean, 2) := by decide +kernel
theorem dX8_init_171 : decode cX8_init 171 = .ok (.putfield 72, 3) := by decide +kernel
theorem dX8_init_174 : decode cX8_init 174 = .ok (.aload_n 0, 1) := by decide +kernel
theorem dX8_init_175 : decode cX8_init 175 = .ok (.bipush 36, 2) := by decide +kernel
theorem dX8_init_177 : decode cX8_init 177 = .ok (.newarray .int, 2) := by decide +kernel
theorem dX8_init_179 : decode cX8_init 179 = .ok (.putfield 75, 3) := by decide +kernel
theorem dX8_init_182 : decode cX8_init 182 = .ok (.iconst 0, 1) := by decide +kernel
theorem dX8_init_183 : decode cX8_init 183 = .ok (.istore_n 1, 1) := by decide +kernel
theorem dX8_init_184 : decode cX8_init 184 = .ok (.iload_n 1, 1) := by decide +kernel
theorem dX8_init_185 : decode cX8_init 185 = .ok (.iconst 4, 1) := by decide +kernel
theorem dX8_init_186 : decode cX8_init 186 = .ok (.if_icmp .ge 18, 3) := by decide +kernel
theorem dX8_init_189 : decode cX8_init 189 = .ok (.aload_n 0, 1) := by decide +kernel
theorem dX8_init_190 : decode cX8_init 190 = .ok (.getfield 29, 3) := by decide +kernel
theorem dX8_init_193 : decode cX8_init 193 = .ok (.iload_n 1, 1) := by decide +kernel
theorem dX8_init_194 : decode cX8_init 194 = .ok (.sipush 1000, 3) := by decide +kernel
theorem dX8_init_197 : decode cX8_init 197 = .ok (.iastore, 1) := by decide +kernel
theorem dX8_init_198 : decode cX8_init 198 = .ok (.iinc 1 1, 3) := by decide +kernel
theorem dX8_init_201 : decode cX8_init 201 = .ok (.goto (-17), 3) := by decide +kernel
theorem dX8_init_204 : decode cX8_init 204 = .ok (.iconst 0, 1) := by decide +kernel
theorem dX8_init_205 : decode cX8_init 205 = .ok (.istore_n 1, 1) := by decide +kernel
theorem dX8_init_206 : decode cX8_init 206 = .ok (.iload_n 1, 1) := by decide +kernel
theorem dX8_init_207 : decode cX8_init 207 = .ok (.sipush 144, 3) := by decide +kernel
theorem dX8_init_210 : decode cX8_init 210 = .ok (.if_icmp .ge 16, 3) := by decide +kernel
theorem dX8_init_213 : decode cX8_init 213 = .ok (.aload_n 0, 1) := by decide +kernel
theorem dX8_init_214 : decode cX8_init 214 = .ok (.getfield 32, 3) := by decide +kernel
theorem dX8_init_217 : decode cX8_init 217 = .ok (.iload_n 1, 1) := by decide +kernel
theorem dX8_init_218 : decode cX8_init 218 = .ok (.iconst (-1), 1) := by decide +kernel
theorem dX8_init_219 : decode cX8_init 219 = .ok (.iastore, 1) := by decide +kernel
theorem dX8_init_220 : decode cX8_init 220 = .ok (.iinc 1 1, 3) := by decide +kernel
theorem dX8_init_223 : decode cX8_init 223 = .ok (.goto (-17), 3) := by decide +kernel
theorem dX8_init_226 : decode cX8_init 226 = .ok (.return_, 1) := by decide +kernel
theorem dX8_in_0 : decode cX8_in 0 = .ok (.lload_n 0, 1) := by decide +kernel
theorem dX8_in_1 : decode cX8_in 1 = .ok (.lload_n 2, 1) := by decide +kernel
theorem dX8_in_2 : decode cX8_in 2 = .ok (.lcmp, 1) := by decide +kernel
theorem dX8_in_3 : decode cX8_in 3 = .ok (.ifCond .lt 14, 3) := by decide +kernel
theorem dX8_in_6 : decode cX8_in 6 = .ok (.lload_n 0, 1) := by decide +kernel
theorem dX8_in_7 : decode cX8_in 7 = .ok (.lload 4, 2) := by decide +kernel
theorem dX8_in_9 : decode cX8_in 9 = .ok (.lcmp, 1) := by decide +kernel
theorem dX8_in_10 : decode cX8_in 10 = .ok (.ifCond .gt 7, 3) := by decide +kernel
theorem dX8_in_13 : decode cX8_in 13 = .ok (.iconst 1, 1) := by decide +kernel
theorem dX8_in_14 : decode cX8_in 14 = .ok (.goto 4, 3) := by decide +kernel
theorem dX8_in_17 : decode cX8_in 17 = .ok (.iconst 0, 1) := by decide +kernel
theorem dX8_in_18 : decode cX8_in 18 = .ok (.ireturn, 1) := by decide +kernel
theorem dX8_told0_0 : decode cX8_told0 0 = .ok (.aload_n 0, 1) := by decide +kernel
theorem dX8_told0_1 : decode cX8_told0 1 = .ok (.dup, 1) := by decide +kernel
theorem dX8_told0_2 : decode cX8_told0 2 = .ok (.getfield 78, 3) := by decide +kernel
theorem dX8_told0_5 : decode cX8_told0 5 = .ok (.lconst 1, 1) := by decide +kernel
theorem dX8_told0_6 : decode cX8_told0 6 = .ok (.ladd, 1) := by decide +kernel
theorem dX8_told0_7 : decode cX8_told0 7 = .ok (.putfield 78, 3) := by decide +kernel
theorem dX8_told0_10 : decode cX8_told0 10 = .ok (.lload_n 1, 1) := by decide +kernel
theorem dX8_told0_11 : decode cX8_told0 11 = .ok (.lreturn, 1) := by decide +kernel
theorem dX8_isUnit_0 : decode cX8_isUnit 0 = .ok (.iload_n 1, 1) := by decide +kernel
theorem dX8_isUnit_1 : decode cX8_isUnit 1 = .ok (.i2l, 1) := by decide +kernel
theorem dX8_isUnit_2 : decode cX8_isUnit 2 = .ok (.lconst 0, 1) := by decide +kernel
theorem dX8_isUnit_3 : decode cX8_isUnit 3 = .ok (.aload_n 0, 1) := by decide +kernel
theorem dX8_isUnit_4 : decode cX8_isUnit 4 = .ok (.getfield 82, 3) := by decide +kernel
theorem dX8_isUnit_7 : decode cX8_isUnit 7 = .ok (.iconst 1, 1) := by decide +kernel
theorem dX8_isUnit_8 : decode cX8_isUnit 8 = .ok (.isub, 1) := by decide +kernel
theorem dX8_isUnit_9 : decode cX8_isUnit 9 = .ok (.i2l, 1) := by decide +kernel
theorem dX8_isUnit_10 : decode cX8_isUnit 10 = .ok (.invokestatic 86, 3) := by decide +kernel
theorem dX8_isUnit_13 : decode cX8_isUnit 13 = .ok (.ireturn, 1) := by decide +kernel
theorem dX8_isYear_0 : decode cX8_isYear 0 = .ok (.iload_n 0, 1) := by decide +kernel
theorem dX8_isYear_1 : decode cX8_isYear 1 = .ok (.i2l, 1) := by decide +kernel
theorem dX8_isYear_2 : decode cX8_isYear 2 = .ok (.ldc2_w 90, 3) := by decide +kernel
theorem dX8_isYear_5 : decode cX8_isYear 5 = .ok (.ldc2_w 92, 3) := by decide +kernel
theorem dX8_isYear_8 : decode cX8_isYear 8 = .ok (.invokestatic 86, 3) := by decide +kernel
theorem dX8_isYear_11 : decode cX8_isYear 11 = .ok (.ireturn, 1) := by decide +kernel
theorem dX8_isCell_0 : decode cX8_isCell 0 = .ok (.iload_n 0, 1) := by decide +kernel
theorem dX8_isCell_1 : decode cX8_isCell 1 = .ok (.i2l, 1) := by decide +kernel
theorem dX8_isCell_2 : decode cX8_isCell 2 = .ok (.lconst 0, 1) := by decide +kernel
theorem dX8_isCell_3 : decode cX8_isCell 3 = .ok (.ldc2_w 94, 3) := by decide +kernel
theorem dX8_isCell_6 : decode cX8_isCell 6 = .ok (.invokestatic 86, 3) := by decide +kernel
theorem dX8_isCell_9 : decode cX8_isCell 9 = .ok (.ireturn, 1) := by decide +kernel
theorem dX8_isHundred_0 : decode cX8_isHundred 0 = .ok (.aload_n 0, 1) := by decide +kernel
theorem dX8_isHundred_1 : decode cX8_isHundred 1 = .ok (.getfield 9, 3) := by decide +kernel
theorem dX8_isHundred_4 : decode cX8_isHundred 4 = .ok (.iload_n 1, 1) := by decide +kernel
theorem dX8_isHundred_5 : decode cX8_isHundred 5 = .ok (.iaload, 1) := by decide +kernel
theorem dX8_isHundred_6 : decode cX8_isHundred 6 = .ok (.iconst 3, 1) := by decide +kernel
theorem dX8_isHundred_7 : decode cX8_isHundred 7 = .ok (.if_icmp .ne 7, 3) := by decide +kernel
theorem dX8_isHundred_10 : decode cX8_isHundred 10 = .ok (.iconst 1, 1) := by decide +kernel
theorem dX8_isHundred_11 : decode cX8_isHundred 11 = .ok (.goto 4, 3) := by decide +kernel
theorem dX8_isHundred_14 : decode cX8_isHundred 14 = .ok (.iconst 0, 1) := by decide +kernel
theorem dX8_isHundred_15 : decode cX8_isHundred 15 = .ok (.ireturn, 1) := by decide +kernel
theorem dX8_unit_0 : decode cX8_unit 0 = .ok (.iload_n 1, 1) := by decide +kernel
theorem dX8_unit_1 : decode cX8_unit 1 = .ok (.i2l, 1) := by decide +kernel
theorem dX8_unit_2 : decode cX8_unit 2 = .ok (.lconst 0, 1) := by decide +kernel
theorem dX8_unit_3 : decode cX8_unit 3 = .ok (.ldc2_w 96, 3) := by decide +kernel
theorem dX8_unit_6 : decode cX8_unit 6 = .ok (.invokestatic 86, 3) := by decide +kernel
theorem dX8_unit_9 : decode cX8_unit 9 = .ok (.ifCond .ne 11, 3) := by decide +kernel
theorem dX8_unit_12 : decode cX8_unit 12 = .ok (.aload_n 0, 1) := by decide +kernel
theorem dX8_unit_13 : decode cX8_unit 13 = .ok (.ldc2_w 98, 3) := by decide +kernel
theorem dX8_unit_16 : decode cX8_unit 16 = .ok (.invokevirtual 100, 3) := by decide +kernel
theorem dX8_unit_19 : decode cX8_unit 19 = .ok (.lreturn, 1) := by decide +kernel
theorem dX8_unit_20 : decode cX8_unit 20 = .ok (.aload_n 0, 1) := by decide +kernel
theorem dX8_unit_21 : decode cX8_unit 21 = .ok (.getfield 82, 3) := by decide +kernel
theorem dX8_unit_24 : decode cX8_unit 24 = .ok (.bipush 10, 2) := by decide +kernel
theorem dX8_unit_26 : decode cX8_unit 26 = .ok (.if_icmp .ne 11, 3) := by decide +kernel
theorem dX8_unit_29 : decode cX8_unit 29 = .ok (.aload_n 0, 1) := by decide +kernel
theorem dX8_unit_30 : decode cX8_unit 30 = .ok (.ldc2_w 104, 3) := by decide +kernel
theorem dX8_unit_33 : decode cX8_unit 33 = .ok (.invokevirtual 100, 3) := by decide +kernel
theorem dX8_unit_36 : decode cX8_unit 36 = .ok (.lreturn, 1) := by decide +kernel
theorem dX8_unit_37 : decode cX8_unit 37 = .ok (.aload_n 0, 1) := by decide +kernel
theorem dX8_unit_38 : decode cX8_unit 38 = .ok (.getfield 9, 3) := by decide +kernel
theorem dX8_unit_41 : decode cX8_unit 41 = .ok (.aload_n 0, 1) := by decide +kernel
theorem dX8_unit_42 : decode cX8_unit 42 = .ok (.getfield 82, 3) := by decide +kernel
theorem dX8_unit_45 : decode cX8_unit 45 = .ok (.iload_n 1, 1) := by decide +kernel
theorem dX8_unit_46 : decode cX8_unit 46 = .ok (.iastore, 1) := by decide +kernel
theorem dX8_unit_47 : decode cX8_unit 47 = .ok (.aload_n 0, 1) := by decide +kernel
theorem dX8_unit_48 : decode cX8_unit 48 = .ok (.dup, 1) := by decide +kernel
theorem dX8_unit_49 : decode cX8_unit 49 = .ok (.getfield 82, 3) := by decide +kernel
theorem dX8_unit_52 : decode cX8_unit 52 = .ok (.iconst 1, 1) := by decide +kernel
theorem dX8_unit_53 : decode cX8_unit 53 = .ok (.iadd, 1) := by decide +kernel
theorem dX8_unit_54 : decode cX8_unit 54 = .ok (.putfield 82, 3) := by decide +kernel
theorem dX8_unit_57 : decode cX8_unit 57 = .ok (.aload_n 0, 1) := by decide +kernel
theorem dX8_unit_58 : decode cX8_unit 58 = .ok (.getfield 82, 3) := by decide +kernel
theorem dX8_unit_61 : decode cX8_unit 61 = .ok (.iconst 1, 1) := by decide +kernel
theorem dX8_unit_62 : decode cX8_unit 62 = .ok (.isub, 1) := by decide +kernel
theorem dX8_unit_63 : decode cX8_unit 63 = .ok (.i2l, 1) := by decide +kernel
theorem dX8_unit_64 : decode cX8_unit 64 = .ok (.lreturn, 1) := by decide +kernel
theorem dX8_as_0 : decode cX8_as 0 = .ok (.aload_n 0, 1) := by decide +kernel
theorem dX8_as_1 : decode cX8_as 1 = .ok (.iload_n 1, 1) := by decide +kernel
theorem dX8_as_2 : decode cX8_as 2 = .ok (.invokevirtual 106, 3) := by decide +kernel
theorem dX8_as_5 : decode cX8_as 5 = .ok (.ifCond .eq 15, 3) := by decide +kernel
theorem dX8_as_8 : decode cX8_as 8 = .ok (.iload_n 2, 1) := by decide +kernel
theorem dX8_as_9 : decode cX8_as 9 = .ok (.i2l, 1) := by decide +kernel
theorem dX8_as_10 : decode cX8_as 10 = .ok (.lconst 0, 1) := by decide +kernel
theorem dX8_as_11 : decode cX8_as 11 = .ok (.ldc2_w 96, 3) := by decide +kernel
theorem dX8_as_14 : decode cX8_as 14 = .ok (.invokestatic 86, 3) := by decide +kernel
theorem dX8_as_17 : decode cX8_as 17 = .ok (.ifCond .ne 11, 3) := by decide +kernel
theorem dX8_as_20 : decode cX8_as 20 = .ok (.aload_n 0, 1) := by decide +kernel
theorem dX8_as_21 : decode cX8_as 21 = .ok (.ldc2_w 98, 3) := by decide +kernel
theorem dX8_as_24 : decode cX8_as 24 = .ok (.invokevirtual 100, 3) := by decide +kernel
theorem dX8_as_27 : decode cX8_as 27 = .ok (.lreturn, 1) := by decide +kernel
theorem dX8_as_28 : decode cX8_as 28 = .ok (.aload_n 0, 1) := by decide +kernel
theorem dX8_as_29 : decode cX8_as 29 = .ok (.getfield 9, 3) := by decide +kernel
theorem dX8_as_32 : decode cX8_as 32 = .ok (.iload_n 1, 1) := by decide +kernel
theorem dX8_as_33 : decode cX8_as 33 = .ok (.iaload, 1) := by decide +kernel
theorem dX8_as_34 : decode cX8_as 34 = .ok (.istore_n 3, 1) := by decide +kernel
theorem dX8_as_35 : decode cX8_as 35 = .ok (.iload_n 2, 1) := by decide +kernel
theorem dX8_as_36 : decode cX8_as 36 = .ok (.ifCond .eq 18, 3) := by decide +kernel
theorem dX8_as_39 : decode cX8_as 39 = .ok (.iload_n 2, 1) := by decide +kernel
theorem dX8_as_40 : decode cX8_as 40 = .ok (.iload_n 3, 1) := by decide +kernel
theorem dX8_as_41 : decode cX8_as 41 = .ok (.if_icmp .eq 13, 3) := by decide +kernel
theorem dX8_as_44 : decode cX8_as 44 = .ok (.iload_n 2, 1) := by decide +kernel
theorem dX8_as_45 : decode cX8_as 45 = .ok (.iconst 1, 1) := by decide +kernel
theorem dX8_as_46 : decode cX8_as 46 = .ok (.if_icmp .ne 12, 3) := by decide +kernel
theorem dX8_as_49 : decode cX8_as 49 = .ok (.iload_n 3, 1) := by decide +kernel
theorem dX8_as_50 : decode cX8_as 50 = .ok (.iconst 2, 1) := by decide +kernel
theorem dX8_as_51 : decode cX8_as 51 = .ok (.if_icmp .ne 7, 3) := by decide +kernel
theorem dX8_as_54 : decode cX8_as 54 = .ok (.iconst 1, 1) := by decide +kernel
theorem dX8_as_55 : decode cX8_as 55 = .ok (.goto 4, 3) := by decide +kernel
theorem dX8_as_58 : decode cX8_as 58 = .ok (.iconst 0, 1) := by decide +kernel
theorem dX8_as_59 : decode cX8_as 59 = .ok (.istore 4, 2) := by decide +kernel
theorem dX8_as_61 : decode cX8_as 61 = .ok (.iload 4, 2) := by decide +kernel
theorem dX8_as_63 : decode cX8_as 63 = .ok (.ifCond .eq 8, 3) := by decide +kernel
theorem dX8_as_66 : decode cX8_as 66 = .ok (.iload_n 1, 1) := by decide +kernel
theorem dX8_as_67 : decode cX8_as 67 = .ok (.i2l, 1) := by decide +kernel
theorem dX8_as_68 : decode cX8_as 68 = .ok (.goto 10, 3) := by decide +kernel
theorem dX8_as_71 : decode cX8_as 71 = .ok (.aload_n 0, 1) := by decide +kernel
theorem dX8_as_72 : decode cX8_as 72 = .ok (.ldc2_w 110, 3) := by decide +kernel
theorem dX8_as_75 : decode cX8_as 75 = .ok (.invokevirtual 100, 3) := by decide +kernel
theorem dX8_as_78 : decode cX8_as 78 = .ok (.lreturn, 1) := by decide +kernel
theorem dX8_add_0 : decode cX8_add 0 = .ok (.aload_n 0, 1) := by decide +kernel
theorem dX8_add_1 : decode cX8_add 1 = .ok (.getfield 112, 3) := by decide +kernel
theorem dX8_add_4 : decode cX8_add 4 = .ok (.bipush 30, 2) := by decide +kernel
theorem dX8_add_6 : decode cX8_add 6 = .ok (.if_icmp .ne 11, 3) := by decide +kernel
theorem dX8_add_9 : decode cX8_add 9 = .ok (.aload_n 0, 1) := by decide +kernel
theorem dX8_add_10 : decode cX8_add 10 = .ok (.ldc2_w 104, 3) := by decide +kernel
theorem dX8_add_13 : decode cX8_add 13 = .ok (.invokevirtual 100, 3) := by decide +kernel
theorem dX8_add_16 : decode cX8_add 16 = .ok (.lreturn, 1) := by decide +kernel
theorem dX8_add_17 : decode cX8_add 17 = .ok (.aload_n 0, 1) := by decide +kernel
theorem dX8_add_18 : decode cX8_add 18 = .ok (.getfield 13, 3) := by decide +kernel
theorem dX8_add_21 : decode cX8_add 21 = .ok (.aload_n 0, 1) := by decide +kernel
theorem dX8_add_22 : decode cX8_add 22 = .ok (.getfield 112, 3) := by decide +kernel
theorem dX8_add_25 : decode cX8_add 25 = .ok (.iload_n 1, 1) := by decide +kernel
theorem dX8_add_26 : decode cX8_add 26 = .ok (.iastore, 1) := by decide +kernel
theorem dX8_add_27 : decode cX8_add 27 = .ok (.aload_n 0, 1) := by decide +kernel
theorem dX8_add_28 : decode cX8_add 28 = .ok (.getfield 16, 3) := by decide +kernel
theorem dX8_add_31 : decode cX8_add 31 = .ok (.aload_n 0, 1) := by decide +kernel
theorem dX8_add_32 : decode cX8_add 32 = .ok (.getfield 112, 3) := by decide +kernel
theorem dX8_add_35 : decode cX8_add 35 = .ok (.iload_n 2, 1) := by decide +kernel
theorem dX8_add_36 : decode cX8_add 36 = .ok (.iastore, 1) := by decide +kernel
theorem dX8_add_37 : decode cX8_add 37 = .ok (.aload_n 0, 1) := by decide +kernel
theorem dX8_add_38 : decode cX8_add 38 = .ok (.getfield 19, 3) := by decide +kernel
theorem dX8_add_41 : decode cX8_add 41 = .ok (.aload_n 0, 1) := by decide +kernel
theorem dX8_add_42 : decode cX8_add 42 = .ok (.getfield 112, 3) := by decide +kernel
theorem dX8_add_45 : decode cX8_add 45 = .ok (.iload_n 3, 1) := by decide +kernel
theorem dX8_add_46 : decode cX8_add 46 = .ok (.iastore, 1) := by decide +kernel
theorem dX8_add_47 : decode cX8_add 47 = .ok (.aload_n 0, 1) := by decide +kernel
theorem dX8_add_48 : decode cX8_add 48 = .ok (.getfield 22, 3) := by decide +kernel
theorem dX8_add_51 : decode cX8_add 51 = .ok (.aload_n 0, 1) := by decide +kernel
theorem dX8_add_52 : decode cX8_add 52 = .ok (.getfield 112, 3) := by decide +kernel
theorem dX8_add_55 : decode cX8_add 55 = .ok (.iload 4, 2) := by decide +kernel
theorem dX8_add_57 : decode cX8_add 57 = .ok (.iastore, 1) := by decide +kernel
theorem dX8_add_58 : decode cX8_add 58 = .ok (.aload_n 0, 1) := by decide +kernel
theorem dX8_add_59 : decode cX8_add 59 = .ok (.getfield 25, 3) := by decide +kernel
theorem dX8_add_62 : decode cX8_add 62 = .ok (.aload_n 0, 1) := by decide +kernel
theorem dX8_add_63 : decode cX8_add 63 = .ok (.getfield 112, 3) := by decide +kernel
theorem dX8_add_66 : decode cX8_add 66 = .ok (.lload 5, 2) := by decide +kernel
theorem dX8_add_68 : decode cX8_add 68 = .ok (.lastore, 1) := by decide +kernel
theorem dX8_add_69 : decode cX8_add 69 = .ok (.aload_n 0, 1) := by decide +kernel
theorem dX8_add_70 : decode cX8_add 70 = .ok (.dup, 1) := by decide +kernel
theorem dX8_add_71 : decode cX8_add 71 = .ok (.getfield 112, 3) := by decide +kernel
theorem dX8_add_74 : decode cX8_add 74 = .ok (.iconst 1, 1) := by decide +kernel
theorem dX8_add_75 : decode cX8_add 75 = .ok (.iadd, 1) := by decide +kernel
theorem dX8_add_76 : decode cX8_add 76 = .ok (.putfield 112, 3) := by decide +kernel
theorem dX8_add_79 : decode cX8_add 79 = .ok (.aload_n 0, 1) := by decide +kernel
theorem dX8_add_80 : decode cX8_add 80 = .ok (.getfield 112, 3) := by decide +kernel
theorem dX8_add_83 : decode cX8_add 83 = .ok (.iconst 1, 1) := by decide +kernel
theorem dX8_add_84 : decode cX8_add 84 = .ok (.isub, 1) := by decide +kernel
theorem dX8_add_85 : decode cX8_add 85 = .ok (.i2l, 1) := by decide +kernel
theorem dX8_add_86 : decode cX8_add 86 = .ok (.lreturn, 1) := by decide +kernel
theorem dX8_found_0 : decode cX8_found 0 = .ok (.aload_n 0, 1) := by decide +kernel
theorem dX8_found_1 : decode cX8_found 1 = .ok (.iload_n 1, 1) := by decide +kernel
theorem dX8_found_2 : decode cX8_found 2 = .ok (.invokevirtual 106, 3) := by decide +kernel
theorem dX8_found_5 : decode cX8_found 5 = .ok (.ifCond .eq 25, 3) := by decide +kernel
theorem dX8_found_8 : decode cX8_found 8 = .ok (.iload_n 2, 1) := by decide +kernel
theorem dX8_found_9 : decode cX8_found 9 = .ok (.invokestatic 115, 3) := by decide +kernel
theorem dX8_found_12 : decode cX8_found 12 = .ok (.ifCond .eq 18, 3) := by decide +kernel
theorem dX8_found_15 : decode cX8_found 15 = .ok (.lload_n 3, 1) := by decide +kernel
theorem dX8_found_16 : decode cX8_found 16 = .ok (.lconst 0, 1) := by decide +kernel
theorem dX8_found_17 : decode cX8_found 17 = .ok (.lcmp, 1) := by decide +kernel
theorem dX8_found_18 : decode cX8_found 18 = .ok (.ifCond .lt 12, 3) := by decide +kernel
theorem dX8_found_21 : decode cX8_found 21 = .ok (.lload_n 3, 1) := by decide +kernel
theorem dX8_found_22 : decode cX8_found 22 = .ok (.bipush 36, 2) := by decide +kernel
theorem dX8_found_24 : decode cX8_found 24 = .ok (.lshr, 1) := by decide +kernel
theorem dX8_found_25 : decode cX8_found 25 = .ok (.lconst 0, 1) := by decide +kernel
theorem dX8_found_26 : decode cX8_found 26 = .ok (.lcmp, 1) := by decide +kernel
theorem dX8_found_27 : decode cX8_found 27 = .ok (.ifCond .eq 11, 3) := by decide +kernel
theorem dX8_found_30 : decode cX8_found 30 = .ok (.aload_n 0, 1) := by decide +kernel
theorem dX8_found_31 : decode cX8_found 31 = .ok (.ldc2_w 98, 3) := by decide +kernel
theorem dX8_found_34 : decode cX8_found 34 = .ok (.invokevirtual 100, 3) := by decide +kernel
theorem dX8_found_37 : decode cX8_found 37 = .ok (.lreturn, 1) := by decide +kernel
theorem dX8_found_38 : decode cX8_found 38 = .ok (.aload_n 0, 1) := by decide +kernel
theorem dX8_found_39 : decode cX8_found 39 = .ok (.iload_n 1, 1) := by decide +kernel
theorem dX8_found_40 : decode cX8_found 40 = .ok (.invokevirtual 118, 3) := by decide +kernel
theorem dX8_found_43 : decode cX8_found 43 = .ok (.ifCond .eq 13, 3) := by decide +kernel
theorem dX8_found_46 : decode cX8_found 46 = .ok (.aload_n 0, 1) := by decide +kernel
theorem dX8_found_47 : decode cX8_found 47 = .ok (.ldc2_w 110, 3) := by decide +kernel
theorem dX8_found_50 : decode cX8_found 50 = .ok (.invokevirtual 100, 3) := by decide +kernel
theorem dX8_found_53 : decode cX8_found 53 = .ok (.goto 12, 3) := by decide +kernel
theorem dX8_found_56 : decode cX8_found 56 = .ok (.aload_n 0, 1) := by decide +kernel
theorem dX8_found_57 : decode cX8_found 57 = .ok (.iconst 0, 1) := by decide +kernel
theorem dX8_found_58 : decode cX8_found 58 = .ok (.iload_n 2, 1) := by decide +kernel
theorem dX8_found_59 : decode cX8_found 59 = .ok (.iload_n 1, 1) := by decide +kernel
theorem dX8_found_60 : decode cX8_found 60 = .ok (.iconst (-1), 1) := by decide +kernel
theorem dX8_found_61 : decode cX8_found 61 = .ok (.lload_n 3, 1) := by decide +kernel
theorem dX8_found_62 : decode cX8_found 62 = .ok (.invokevirtual 121, 3) := by decide +kernel
theorem dX8_found_65 : decode cX8_found 65 = .ok (.lreturn, 1) := by decide +kernel
theorem dX8_move_0 : decode cX8_move 0 = .ok (.aload_n 0, 1) := by decide +kernel
theorem dX8_move_1 : decode cX8_move 1 = .ok (.iload_n 1, 1) := by decide +kernel
theorem dX8_move_2 : decode cX8_move 2 = .ok (.invokevirtual 106, 3) := by decide +kernel
theorem dX8_move_5 : decode cX8_move 5 = .ok (.ifCond .eq 35, 3) := by decide +kernel
theorem dX8_move_8 : decode cX8_move 8 = .ok (.aload_n 0, 1) := by decide +kernel
theorem dX8_move_9 : decode cX8_move 9 = .ok (.iload_n 2, 1) := by decide +kernel
theorem dX8_move_10 : decode cX8_move 10 = .ok (.invokevirtual 106, 3) := by decide +kernel
theorem dX8_move_13 : decode cX8_move 13 = .ok (.ifCond .eq 27, 3) := by decide +kernel
theorem dX8_move_16 : decode cX8_move 16 = .ok (.iload_n 3, 1) := by decide +kernel
theorem dX8_move_17 : decode cX8_move 17 = .ok (.invokestatic 115, 3) := by decide +kernel
theorem dX8_move_20 : decode cX8_move 20 = .ok (.ifCond .eq 20, 3) := by decide +kernel
theorem dX8_move_23 : decode cX8_move 23 = .ok (.lload 4, 2) := by decide +kernel
theorem dX8_move_25 : decode cX8_move 25 = .ok (.lconst 0, 1) := by decide +kernel
theorem dX8_move_26 : decode cX8_move 26 = .ok (.lcmp, 1) := by decide +kernel
theorem dX8_move_27 : decode cX8_move 27 = .ok (.ifCond .lt 13, 3) := by decide +kernel
theorem dX8_move_30 : decode cX8_move 30 = .ok (.lload 4, 2) := by decide +kernel
theorem dX8_move_32 : decode cX8_move 32 = .ok (.bipush 36, 2) := by decide +kernel
theorem dX8_move_34 : decode cX8_move 34 = .ok (.lshr, 1) := by decide +kernel
theorem dX8_move_35 : decode cX8_move 35 = .ok (.lconst 0, 1) := by decide +kernel
theorem dX8_move_36 : decode cX8_move 36 = .ok (.lcmp, 1) := by decide +kernel
theorem dX8_move_37 : decode cX8_move 37 = .ok (.ifCond .eq 11, 3) := by decide +kernel
theorem dX8_move_40 : decode cX8_move 40 = .ok (.aload_n 0, 1) := by decide +kernel
theorem dX8_move_41 : decode cX8_move 41 = .ok (.ldc2_w 98, 3) := by decide +kernel
theorem dX8_move_44 : decode cX8_move 44 = .ok (.invokevirtual 100, 3) := by decide +kernel
theorem dX8_move_47 : decode cX8_move 47 = .ok (.lreturn, 1) := by decide +kernel
theorem dX8_move_48 : decode cX8_move 48 = .ok (.aload_n 0, 1) := by decide +kernel
theorem dX8_move_49 : decode cX8_move 49 = .ok (.iload_n 1, 1) := by decide +kernel
theorem dX8_move_50 : decode cX8_move 50 = .ok (.invokevirtual 118, 3) := by decide +kernel
theorem dX8_move_53 : decode cX8_move 53 = .ok (.ifCond .ne 11, 3) := by decide +kernel
theorem dX8_move_56 : decode cX8_move 56 = .ok (.aload_n 0, 1) := by decide +kernel
theorem dX8_move_57 : decode cX8_move 57 = .ok (.iload_n 2, 1) := by decide +kernel
theorem dX8_move_58 : decode cX8_move 58 = .ok (.invokevirtual 118, 3) := by decide +kernel
theorem dX8_move_61 : decode cX8_move 61 = .ok (.ifCond .eq 11, 3) := by decide +kernel
theorem dX8_move_64 : decode cX8_move 64 = .ok (.aload_n 0, 1) := by decide +kernel
theorem dX8_move_65 : decode cX8_move 65 = .ok (.ldc2_w 110, 3) := by decide +kernel
theorem dX8_move_68 : decode cX8_move 68 = .ok (.invokevirtual 100, 3) := by decide +kernel
theorem dX8_move_71 : decode cX8_move 71 = .ok (.lreturn, 1) := by decide +kernel
theorem dX8_move_72 : decode cX8_move 72 = .ok (.iload_n 1, 1) := by decide +kernel
theorem dX8_move_73 : decode cX8_move 73 = .ok (.iload_n 2, 1) := by decide +kernel
theorem dX8_move_74 : decode cX8_move 74 = .ok (.if_icmp .ne 13, 3) := by decide +kernel
theorem dX8_move_77 : decode cX8_move 77 = .ok (.aload_n 0, 1) := by decide +kernel
theorem dX8_move_78 : decode cX8_move 78 = .ok (.ldc2_w 125, 3) := by decide +kernel
theorem dX8_move_81 : decode cX8_move 81 = .ok (.invokevirtual 100, 3) := by decide +kernel
theorem dX8_move_84 : decode cX8_move 84 = .ok (.goto 13, 3) := by decide +kernel
theorem dX8_move_87 : decode cX8_move 87 = .ok (.aload_n 0, 1) := by decide +kernel
theorem dX8_move_88 : decode cX8_move 88 = .ok (.iconst 1, 1) := by decide +kernel
theorem dX8_move_89 : decode cX8_move 89 = .ok (.iload_n 3, 1) := by decide +kernel
theorem dX8_move_90 : decode cX8_move 90 = .ok (.iload_n 1, 1) := by decide +kernel
theorem dX8_move_91 : decode cX8_move 91 = .ok (.iload_n 2, 1) := by decide +kernel
theorem dX8_move_92 : decode cX8_move 92 = .ok (.lload 4, 2) := by decide +kernel
theorem dX8_move_94 : decode cX8_move 94 = .ok (.invokevirtual 121, 3) := by decide +kernel
theorem dX8_move_97 : decode cX8_move 97 = .ok (.lreturn, 1) := by decide +kernel
theorem dX8_swallow_0 : decode cX8_swallow 0 = .ok (.aload_n 0, 1) := by decide +kernel
theorem dX8_swallow_1 : decode cX8_swallow 1 = .ok (.iload_n 1, 1) := by decide +kernel
theorem dX8_swallow_2 : decode cX8_swallow 2 = .ok (.invokevirtual 106, 3) := by decide +kernel
theorem dX8_swallow_5 : decode cX8_swallow 5 = .ok (.ifCond .eq 18, 3) := by decide +kernel
theorem dX8_swallow_8 : decode cX8_swallow 8 = .ok (.aload_n 0, 1) := by decide +kernel
theorem dX8_swallow_9 : decode cX8_swallow 9 = .ok (.iload_n 2, 1) := by decide +kernel
theorem dX8_swallow_10 : decode cX8_swallow 10 = .ok (.invokevirtual 106, 3) := by decide +kernel
theorem dX8_swallow_13 : decode cX8_swallow 13 = .ok (.ifCond .eq 10, 3) := by decide +kernel
theorem dX8_swallow_16 : decode cX8_swallow 16 = .ok (.iload_n 3, 1) := by decide +kernel
theorem dX8_swallow_17 : decode cX8_swallow 17 = .ok (.invokestatic 115, 3) := by decide +kernel
theorem dX8_swallow_20 : decode cX8_swallow 20 = .ok (.ifCond .ne 11, 3) := by decide +kernel
theorem dX8_swallow_23 : decode cX8_swallow 23 = .ok (.aload_n 0, 1) := by decide +kernel
theorem dX8_swallow_24 : decode cX8_swallow 24 = .ok (.ldc2_w 98, 3) := by decide +kernel
theorem dX8_swallow_27 : decode cX8_swallow 27 = .ok (.invokevirtual 100, 3) := by decide +kernel
theorem dX8_swallow_30 : decode cX8_swallow 30 = .ok (.lreturn, 1) := by decide +kernel
theorem dX8_swallow_31 : decode cX8_swallow 31 = .ok (.aload_n 0, 1) := by decide +kernel
theorem dX8_swallow_32 : decode cX8_swallow 32 = .ok (.iload_n 1, 1) := by decide +kernel
theorem dX8_swallow_33 : decode cX8_swallow 33 = .ok (.invokevirtual 118, 3) := by decide +kernel
theorem dX8_swallow_36 : decode cX8_swallow 36 = .ok (.ifCond .ne 11, 3) := by decide +kernel
theorem dX8_swallow_39 : decode cX8_swallow 39 = .ok (.aload_n 0, 1) := by decide +kernel
theorem dX8_swallow_40 : decode cX8_swallow 40 = .ok (.iload_n 2, 1) := by decide +kernel
theorem dX8_swallow_41 : decode cX8_swallow 41 = .ok (.invokevirtual 118, 3) := by decide +kernel
theorem dX8_swallow_44 : decode cX8_swallow 44 = .ok (.ifCond .eq 11, 3) := by decide +kernel
theorem dX8_swallow_47 : decode cX8_swallow 47 = .ok (.aload_n 0, 1) := by decide +kernel
theorem dX8_swallow_48 : decode cX8_swallow 48 = .ok (.ldc2_w 110, 3) := by decide +kernel
theorem dX8_swallow_51 : decode cX8_swallow 51 = .ok (.invokevirtual 100, 3) := by decide +kernel
theorem dX8_swallow_54 : decode cX8_swallow 54 = .ok (.lreturn, 1) := by decide +kernel
theorem dX8_swallow_55 : decode cX8_swallow 55 = .ok (.iload_n 1, 1) := by decide +kernel
theorem dX8_swallow_56 : decode cX8_swallow 56 = .ok (.iload_n 2, 1) := by decide +kernel
theorem dX8_swallow_57 : decode cX8_swallow 57 = .ok (.if_icmp .ne 13, 3) := by decide +kernel
theorem dX8_swallow_60 : decode cX8_swallow 60 = .ok (.aload_n 0, 1) := by decide +kernel
theorem dX8_swallow_61 : decode cX8_swallow 61 = .ok (.ldc2_w 125, 3) := by decide +kernel
theorem dX8_swallow_64 : decode cX8_swallow 64 = .ok (.invokevirtual 100, 3) := by decide +kernel
theorem dX8_swallow_67 : decode cX8_swallow 67 = .ok (.goto 12, 3) := by decide +kernel
theorem dX8_swallow_70 : decode cX8_swallow 70 = .ok (.aload_n 0, 1) := by decide +kernel
theorem dX8_swallow_71 : decode cX8_swallow 71 = .ok (.iconst 2, 1) := by decide +kernel
theorem dX8_swallow_72 : decode cX8_swallow 72 = .ok (.iload_n 3, 1) := by decide +kernel
theorem dX8_swallow_73 : decode cX8_swallow 73 = .ok (.iload_n 1, 1) := by decide +kernel
theorem dX8_swallow_74 : decode cX8_swallow 74 = .ok (.iload_n 2, 1) := by decide +kernel
theorem dX8_swallow_75 : decode cX8_swallow 75 = .ok (.lconst 0, 1) := by decide +kernel
theorem dX8_swallow_76 : decode cX8_swallow 76 = .ok (.invokevirtual 121, 3) := by decide +kernel
theorem dX8_swallow_79 : decode cX8_swallow 79 = .ok (.lreturn, 1) := by decide +kernel
theorem dX8_back_0 : decode cX8_back 0 = .ok (.iload_n 1, 1) := by decide +kernel
theorem dX8_back_1 : decode cX8_back 1 = .ok (.i2l, 1) := by decide +kernel
theorem dX8_back_2 : decode cX8_back 2 = .ok (.lconst 0, 1) := by decide +kernel
theorem dX8_back_3 : decode cX8_back 3 = .ok (.aload_n 0, 1) := by decide +kernel
theorem dX8_back_4 : decode cX8_back 4 = .ok (.getfield 112, 3) := by decide +kernel
theorem dX8_back_7 : decode cX8_back 7 = .ok (.iconst 1, 1) := by decide +kernel
theorem dX8_back_8 : decode cX8_back 8 = .ok (.isub, 1) := by decide +kernel
theorem dX8_back_9 : decode cX8_back 9 = .ok (.i2l, 1) := by decide +kernel
theorem dX8_back_10 : decode cX8_back 10 = .ok (.invokestatic 86, 3) := by decide +kernel
theorem dX8_back_13 : decode cX8_back 13 = .ok (.ifCond .eq 20, 3) := by decide +kernel
theorem dX8_back_16 : decode cX8_back 16 = .ok (.iload_n 2, 1) := by decide +kernel
theorem dX8_back_17 : decode cX8_back 17 = .ok (.invokestatic 115, 3) := by decide +kernel
theorem dX8_back_20 : decode cX8_back 20 = .ok (.ifCond .eq 13, 3) := by decide +kernel
theorem dX8_back_23 : decode cX8_back 23 = .ok (.iload_n 2, 1) := by decide +kernel
theorem dX8_back_24 : decode cX8_back 24 = .ok (.aload_n 0, 1) := by decide +kernel
theorem dX8_back_25 : decode cX8_back 25 = .ok (.getfield 16, 3) := by decide +kernel
theorem dX8_back_28 : decode cX8_back 28 = .ok (.iload_n 1, 1) := by decide +kernel
theorem dX8_back_29 : decode cX8_back 29 = .ok (.iaload, 1) := by decide +kernel
theorem dX8_back_30 : decode cX8_back 30 = .ok (.if_icmp .ge 11, 3) := by decide +kernel
theorem dX8_back_33 : decode cX8_back 33 = .ok (.aload_n 0, 1) := by decide +kernel
theorem dX8_back_34 : decode cX8_back 34 = .ok (.ldc2_w 98, 3) := by decide +kernel
theorem dX8_back_37 : decode cX8_back 37 = .ok (.invokevirtual 100, 3) := by decide +kernel
theorem dX8_back_40 : decode cX8_back 40 = .ok (.lreturn, 1) := by decide +kernel
theorem dX8_back_41 : decode cX8_back 41 = .ok (.aload_n 0, 1) := by decide +kernel
theorem dX8_back_42 : decode cX8_back 42 = .ok (.getfield 13, 3) := by decide +kernel
theorem dX8_back_45 : decode cX8_back 45 = .ok (.iload_n 1, 1) := by decide +kernel
theorem dX8_back_46 : decode cX8_back 46 = .ok (.iaload, 1) := by decide +kernel
theorem dX8_back_47 : decode cX8_back 47 = .ok (.iconst 2, 1) := by decide +kernel
theorem dX8_back_48 : decode cX8_back 48 = .ok (.if_icmp .le 13, 3) := by decide +kernel
theorem dX8_back_51 : decode cX8_back 51 = .ok (.aload_n 0, 1) := by decide +kernel
theorem dX8_back_52 : decode cX8_back 52 = .ok (.ldc2_w 110, 3) := by decide +kernel
theorem dX8_back_55 : decode cX8_back 55 = .ok (.invokevirtual 100, 3) := by decide +kernel
theorem dX8_back_58 : decode cX8_back 58 = .ok (.goto 12, 3) := by decide +kernel
theorem dX8_back_61 : decode cX8_back 61 = .ok (.aload_n 0, 1) := by decide +kernel
theorem dX8_back_62 : decode cX8_back 62 = .ok (.iconst 3, 1) := by decide +kernel
theorem dX8_back_63 : decode cX8_back 63 = .ok (.iload_n 2, 1) := by decide +kernel
theorem dX8_back_64 : decode cX8_back 64 = .ok (.iload_n 1, 1) := by decide +kernel
theorem dX8_back_65 : decode cX8_back 65 = .ok (.iconst (-1), 1) := by decide +kernel
theorem dX8_back_66 : decode cX8_back 66 = .ok (.lconst 0, 1) := by decide +kernel
theorem dX8_back_67 : decode cX8_back 67 = .ok (.invokevirtual 121, 3) := by decide +kernel
theorem dX8_back_70 : decode cX8_back 70 = .ok (.lreturn, 1) := by decide +kernel
theorem dX8_join_0 : decode cX8_join 0 = .ok (.aload_n 0, 1) := by decide +kernel
theorem dX8_join_1 : decode cX8_join 1 = .ok (.iload_n 1, 1) := by decide +kernel
theorem dX8_join_2 : decode cX8_join 2 = .ok (.invokevirtual 106, 3) := by decide +kernel
theorem dX8_join_5 : decode cX8_join 5 = .ok (.ifCond .eq 18, 3) := by decide +kernel
theorem dX8_join_8 : decode cX8_join 8 = .ok (.aload_n 0, 1) := by decide +kernel
theorem dX8_join_9 : decode cX8_join 9 = .ok (.iload_n 2, 1) := by decide +kernel
theorem dX8_join_10 : decode cX8_join 10 = .ok (.invokevirtual 106, 3) := by decide +kernel
theorem dX8_join_13 : decode cX8_join 13 = .ok (.ifCond .eq 10, 3) := by decide +kernel
theorem dX8_join_16 : decode cX8_join 16 = .ok (.iload_n 3, 1) := by decide +kernel
theorem dX8_join_17 : decode cX8_join 17 = .ok (.invokestatic 115, 3) := by decide +kernel
theorem dX8_join_20 : decode cX8_join 20 = .ok (.ifCond .ne 11, 3) := by decide +kernel
theorem dX8_join_23 : decode cX8_join 23 = .ok (.aload_n 0, 1) := by decide +kernel
theorem dX8_join_24 : decode cX8_join 24 = .ok (.ldc2_w 98, 3) := by decide +kernel
theorem dX8_join_27 : decode cX8_join 27 = .ok (.invokevirtual 100, 3) := by decide +kernel
theorem dX8_join_30 : decode cX8_join 30 = .ok (.lreturn, 1) := by decide +kernel
theorem dX8_join_31 : decode cX8_join 31 = .ok (.aload_n 0, 1) := by decide +kernel
theorem dX8_join_32 : decode cX8_join 32 = .ok (.iload_n 1, 1) := by decide +kernel
theorem dX8_join_33 : decode cX8_join 33 = .ok (.invokevirtual 118, 3) := by decide +kernel
theorem dX8_join_36 : decode cX8_join 36 = .ok (.ifCond .ne 11, 3) := by decide +kernel
theorem dX8_join_39 : decode cX8_join 39 = .ok (.aload_n 0, 1) := by decide +kernel
theorem dX8_join_40 : decode cX8_join 40 = .ok (.iload_n 2, 1) := by decide +kernel
theorem dX8_join_41 : decode cX8_join 41 = .ok (.invokevirtual 118, 3) := by decide +kernel
theorem dX8_join_44 : decode cX8_join 44 = .ok (.ifCond .ne 13, 3) := by decide +kernel
theorem dX8_join_47 : decode cX8_join 47 = .ok (.aload_n 0, 1) := by decide +kernel
theorem dX8_join_48 : decode cX8_join 48 = .ok (.ldc2_w 110, 3) := by decide +kernel
theorem dX8_join_51 : decode cX8_join 51 = .ok (.invokevirtual 100, 3) := by decide +kernel
theorem dX8_join_54 : decode cX8_join 54 = .ok (.goto 12, 3) := by decide +kernel
theorem dX8_join_57 : decode cX8_join 57 = .ok (.aload_n 0, 1) := by decide +kernel
theorem dX8_join_58 : decode cX8_join 58 = .ok (.iconst 4, 1) := by decide +kernel
theorem dX8_join_59 : decode cX8_join 59 = .ok (.iload_n 3, 1) := by decide +kernel
theorem dX8_join_60 : decode cX8_join 60 = .ok (.iload_n 1, 1) := by decide +kernel
theorem dX8_join_61 : decode cX8_join 61 = .ok (.iload_n 2, 1) := by decide +kernel
theorem dX8_join_62 : decode cX8_join 62 = .ok (.lconst 0, 1) := by decide +kernel
theorem dX8_join_63 : decode cX8_join 63 = .ok (.invokevirtual 121, 3) := by decide +kernel
theorem dX8_join_66 : decode cX8_join 66 = .ok (.lreturn, 1) := by decide +kernel
theorem dX8_done_0 : decode cX8_done 0 = .ok (.iconst 0, 1) := by decide +kernel
theorem dX8_done_1 : decode cX8_done 1 = .ok (.istore_n 1, 1) := by decide +kernel
theorem dX8_done_2 : decode cX8_done 2 = .ok (.iload_n 1, 1) := by decide +kernel
theorem dX8_done_3 : decode cX8_done 3 = .ok (.aload_n 0, 1) := by decide +kernel
theorem dX8_done_4 : decode cX8_done 4 = .ok (.getfield 112, 3) := by decide +kernel
theorem dX8_done_7 : decode cX8_done 7 = .ok (.if_icmp .ge 84, 3) := by decide +kernel
theorem dX8_done_10 : decode cX8_done 10 = .ok (.iconst 0, 1) := by decide +kernel
theorem dX8_done_11 : decode cX8_done 11 = .ok (.istore_n 2, 1) := by decide +kernel
theorem dX8_done_12 : decode cX8_done 12 = .ok (.iconst 0, 1) := by decide +kernel
theorem dX8_done_13 : decode cX8_done 13 = .ok (.istore_n 3, 1) := by decide +kernel
theorem dX8_done_14 : decode cX8_done 14 = .ok (.iload_n 3, 1) := by decide +kernel
theorem dX8_done_15 : decode cX8_done 15 = .ok (.aload_n 0, 1) := by decide +kernel
theorem dX8_done_16 : decode cX8_done 16 = .ok (.getfield 112, 3) := by decide +kernel
theorem dX8_done_19 : decode cX8_done 19 = .ok (.if_icmp .ge 52, 3) := by decide +kernel
theorem dX8_done_22 : decode cX8_done 22 = .ok (.iload_n 2, 1) := by decide +kernel
theorem dX8_done_23 : decode cX8_done 23 = .ok (.aload_n 0, 1) := by decide +kernel
theorem dX8_done_24 : decode cX8_done 24 = .ok (.getfield 16, 3) := by decide +kernel
theorem dX8_done_27 : decode cX8_done 27 = .ok (.iload_n 3, 1) := by decide +kernel
theorem dX8_done_28 : decode cX8_done 28 = .ok (.iaload, 1) := by decide +kernel
theorem dX8_done_29 : decode cX8_done 29 = .ok (.aload_n 0, 1) := by decide +kernel
theorem dX8_done_30 : decode cX8_done 30 = .ok (.getfield 16, 3) := by decide +kernel
theorem dX8_done_33 : decode cX8_done 33 = .ok (.iload_n 1, 1) := by decide +kernel
theorem dX8_done_34 : decode cX8_done 34 = .ok (.iaload, 1) := by decide +kernel
theorem dX8_done_35 : decode cX8_done 35 = .ok (.if_icmp .lt 23, 3) := by decide +kernel
theorem dX8_done_38 : decode cX8_done 38 = .ok (.aload_n 0, 1) := by decide +kernel
theorem dX8_done_39 : decode cX8_done 39 = .ok (.getfield 16, 3) := by decide +kernel
theorem dX8_done_42 : decode cX8_done 42 = .ok (.iload_n 3, 1) := by decide +kernel
theorem dX8_done_43 : decode cX8_done 43 = .ok (.iaload, 1) := by decide +kernel
theorem dX8_done_44 : decode cX8_done 44 = .ok (.aload_n 0, 1) := by decide +kernel
theorem dX8_done_45 : decode cX8_done 45 = .ok (.getfield 16, 3) := by decide +kernel
theorem dX8_done_48 : decode cX8_done 48 = .ok (.iload_n 1, 1) := by decide +kernel
theorem dX8_done_49 : decode cX8_done 49 = .ok (.iaload, 1) := by decide +kernel
theorem dX8_done_50 : decode cX8_done 50 = .ok (.if_icmp .ne 12, 3) := by decide +kernel
theorem dX8_done_53 : decode cX8_done 53 = .ok (.iload_n 3, 1) := by decide +kernel
theorem dX8_done_54 : decode cX8_done 54 = .ok (.iload_n 1, 1) := by decide +kernel
theorem dX8_done_55 : decode cX8_done 55 = .ok (.if_icmp .ge 7, 3) := by decide +kernel
theorem dX8_done_58 : decode cX8_done 58 = .ok (.iconst 1, 1) := by decide +kernel
theorem dX8_done_59 : decode cX8_done 59 = .ok (.goto 4, 3) := by decide +kernel
theorem dX8_done_62 : decode cX8_done 62 = .ok (.iconst 0, 1) := by decide +kernel
theorem dX8_done_63 : decode cX8_done 63 = .ok (.iadd, 1) := by decide +kernel
theorem dX8_done_64 : decode cX8_done 64 = .ok (.istore_n 2, 1) := by decide +kernel
theorem dX8_done_65 : decode cX8_done 65 = .ok (.iinc 3 1, 3) := by decide +kernel
theorem dX8_done_68 : decode cX8_done 68 = .ok (.goto (-54), 3) := by decide +kernel
theorem dX8_done_71 : decode cX8_done 71 = .ok (.aload_n 0, 1) := by decide +kernel
theorem dX8_done_72 : decode cX8_done 72 = .ok (.getfield 53, 3) := by decide +kernel
theorem dX8_done_75 : decode cX8_done 75 = .ok (.iload_n 2, 1) := by decide +kernel
theorem dX8_done_76 : decode cX8_done 76 = .ok (.iload_n 1, 1) := by decide +kernel
theorem dX8_done_77 : decode cX8_done 77 = .ok (.iastore, 1) := by decide +kernel
theorem dX8_done_78 : decode cX8_done 78 = .ok (.aload_n 0, 1) := by decide +kernel
theorem dX8_done_79 : decode cX8_done 79 = .ok (.getfield 56, 3) := by decide +kernel
theorem dX8_done_82 : decode cX8_done 82 = .ok (.iload_n 1, 1) := by decide +kernel
theorem dX8_done_83 : decode cX8_done 83 = .ok (.iload_n 2, 1) := by decide +kernel
theorem dX8_done_84 : decode cX8_done 84 = .ok (.iastore, 1) := by decide +kernel
theorem dX8_done_85 : decode cX8_done 85 = .ok (.iinc 1 1, 3) := by decide +kernel
theorem dX8_done_88 : decode cX8_done 88 = .ok (.goto (-86), 3) := by decide +kernel
theorem dX8_done_91 : decode cX8_done 91 = .ok (.iconst 0, 1) := by decide +kernel
theorem dX8_done_92 : decode cX8_done 92 = .ok (.istore_n 1, 1) := by decide +kernel
theorem dX8_done_93 : decode cX8_done 93 = .ok (.iload_n 1, 1) := by decide +kernel
theorem dX8_done_94 : decode cX8_done 94 = .ok (.bipush 36, 2) := by decide +kernel
theorem dX8_done_96 : decode cX8_done 96 = .ok (.if_icmp .ge 17, 3) := by decide +kernel
theorem dX8_done_99 : decode cX8_done 99 = .ok (.aload_n 0, 1) := by decide +kernel
theorem dX8_done_100 : decode cX8_done 100 = .ok (.getfield 59, 3) := by decide +kernel
theorem dX8_done_103 : decode cX8_done 103 = .ok (.iload_n 1, 1) := by decide +kernel
theorem dX8_done_104 : decode cX8_done 104 = .ok (.bipush 10, 2) := by decide +kernel
theorem dX8_done_106 : decode cX8_done 106 = .ok (.iastore, 1) := by decide +kernel
theorem dX8_done_107 : decode cX8_done 107 = .ok (.iinc 1 1, 3) := by decide +kernel
theorem dX8_done_110 : decode cX8_done 110 = .ok (.goto (-17), 3) := by decide +kernel
theorem dX8_done_113 : decode cX8_done 113 = .ok (.iconst 0, 1) := by decide +kernel
theorem dX8_done_114 : decode cX8_done 114 = .ok (.istore_n 1, 1) := by decide +kernel
theorem dX8_done_115 : decode cX8_done 115 = .ok (.iload_n 1, 1) := by decide +kernel
theorem dX8_done_116 : decode cX8_done 116 = .ok (.bipush 10, 2) := by decide +kernel
theorem dX8_done_118 : decode cX8_done 118 = .ok (.if_icmp .ge 23, 3) := by decide +kernel
theorem dX8_done_121 : decode cX8_done 121 = .ok (.aload_n 0, 1) := by decide +kernel
theorem dX8_done_122 : decode cX8_done 122 = .ok (.getfield 68, 3) := by decide +kernel
theorem dX8_done_125 : decode cX8_done 125 = .ok (.iload_n 1, 1) := by decide +kernel
theorem dX8_done_126 : decode cX8_done 126 = .ok (.iconst 0, 1) := by decide +kernel
theorem dX8_done_127 : decode cX8_done 127 = .ok (.bastore, 1) := by decide +kernel
theorem dX8_done_128 : decode cX8_done 128 = .ok (.aload_n 0, 1) := by decide +kernel
theorem dX8_done_129 : decode cX8_done 129 = .ok (.getfield 62, 3) := by decide +kernel
theorem dX8_done_132 : decode cX8_done 132 = .ok (.iload_n 1, 1) := by decide +kernel
theorem dX8_done_133 : decode cX8_done 133 = .ok (.iconst (-1), 1) := by decide +kernel
theorem dX8_done_134 : decode cX8_done 134 = .ok (.iastore, 1) := by decide +kernel
theorem dX8_done_135 : decode cX8_done 135 = .ok (.iinc 1 1, 3) := by decide +kernel
theorem dX8_done_138 : decode cX8_done 138 = .ok (.goto (-23), 3) := by decide +kernel
theorem dX8_done_141 : decode cX8_done 141 = .ok (.iconst 0, 1) := by decide +kernel
theorem dX8_done_142 : decode cX8_done 142 = .ok (.istore_n 1, 1) := by decide +kernel
theorem dX8_done_143 : decode cX8_done 143 = .ok (.iload_n 1, 1) := by decide +kernel
theorem dX8_done_144 : decode cX8_done 144 = .ok (.aload_n 0, 1) := by decide +kernel
theorem dX8_done_145 : decode cX8_done 145 = .ok (.getfield 112, 3) := by decide +kernel
theorem dX8_done_148 : decode cX8_done 148 = .ok (.if_icmp .ge 200, 3) := by decide +kernel
theorem dX8_done_151 : decode cX8_done 151 = .ok (.iconst 0, 1) := by decide +kernel
theorem dX8_done_152 : decode cX8_done 152 = .ok (.istore_n 2, 1) := by decide +kernel
theorem dX8_done_153 : decode cX8_done 153 = .ok (.iload_n 2, 1) := by decide +kernel
theorem dX8_done_154 : decode cX8_done 154 = .ok (.bipush 36, 2) := by decide +kernel
theorem dX8_done_156 : decode cX8_done 156 = .ok (.if_icmp .ge 33, 3) := by decide +kernel
theorem dX8_done_159 : decode cX8_done 159 = .ok (.aload_n 0, 1) := by decide +kernel
theorem dX8_done_160 : decode cX8_done 160 = .ok (.getfield 59, 3) := by decide +kernel
theorem dX8_done_163 : decode cX8_done 163 = .ok (.bipush 36, 2) := by decide +kernel
theorem dX8_done_165 : decode cX8_done 165 = .ok (.iload_n 1, 1) := by decide +kernel
theorem dX8_done_166 : decode cX8_done 166 = .ok (.iconst 1, 1) := by decide +kernel
theorem dX8_done_167 : decode cX8_done 167 = .ok (.iadd, 1) := by decide +kernel
theorem dX8_done_168 : decode cX8_done 168 = .ok (.imul, 1) := by decide +kernel
theorem dX8_done_169 : decode cX8_done 169 = .ok (.iload_n 2, 1) := by decide +kernel
theorem dX8_done_170 : decode cX8_done 170 = .ok (.iadd, 1) := by decide +kernel
theorem dX8_done_171 : decode cX8_done 171 = .ok (.aload_n 0, 1) := by decide +kernel
theorem dX8_done_172 : decode cX8_done 172 = .ok (.getfield 59, 3) := by decide +kernel
theorem dX8_done_175 : decode cX8_done 175 = .ok (.bipush 36, 2) := by decide +kernel
theorem dX8_done_177 : decode cX8_done 177 = .ok (.iload_n 1, 1) := by decide +kernel
theorem dX8_done_178 : decode cX8_done 178 = .ok (.imul, 1) := by decide +kernel
theorem dX8_done_179 : decode cX8_done 179 = .ok (.iload_n 2, 1) := by decide +kernel
theorem dX8_done_180 : decode cX8_done 180 = .ok (.iadd, 1) := by decide +kernel
theorem dX8_done_181 : decode cX8_done 181 = .ok (.iaload, 1) := by decide +kernel
theorem dX8_done_182 : decode cX8_done 182 = .ok (.iastore, 1) := by decide +kernel
theorem dX8_done_183 : decode cX8_done 183 = .ok (.iinc 2 1, 3) := by decide +kernel
theorem dX8_done_186 : decode cX8_done 186 = .ok (.goto (-33), 3) := by decide +kernel
theorem dX8_done_189 : decode cX8_done 189 = .ok (.iconst 0, 1) := by decide +kernel
theorem dX8_done_190 : decode cX8_done 190 = .ok (.istore_n 2, 1) := by decide +kernel
theorem dX8_done_191 : decode cX8_done 191 = .ok (.iload_n 2, 1) := by decide +kernel
theorem dX8_done_192 : decode cX8_done 192 = .ok (.bipush 10, 2) := by decide +kernel
theorem dX8_done_194 : decode cX8_done 194 = .ok (.if_icmp .ge 57, 3) := by decide +kernel
theorem dX8_done_197 : decode cX8_done 197 = .ok (.aload_n 0, 1) := by decide +kernel
theorem dX8_done_198 : decode cX8_done 198 = .ok (.getfield 68, 3) := by decide +kernel
theorem dX8_done_201 : decode cX8_done 201 = .ok (.bipush 10, 2) := by decide +kernel
theorem dX8_done_203 : decode cX8_done 203 = .ok (.iload_n 1, 1) := by decide +kernel
theorem dX8_done_204 : decode cX8_done 204 = .ok (.iconst 1, 1) := by decide +kernel
theorem dX8_done_205 : decode cX8_done 205 = .ok (.iadd, 1) := by decide +kernel
theorem dX8_done_206 : decode cX8_done 206 = .ok (.imul, 1) := by decide +kernel
theorem dX8_done_207 : decode cX8_done 207 = .ok (.iload_n 2, 1) := by decide +kernel
theorem dX8_done_208 : decode cX8_done 208 = .ok (.iadd, 1) := by decide +kernel
theorem dX8_done_209 : decode cX8_done 209 = .ok (.aload_n 0, 1) := by decide +kernel
theorem dX8_done_210 : decode cX8_done 210 = .ok (.getfield 68, 3) := by decide +kernel
theorem dX8_done_213 : decode cX8_done 213 = .ok (.bipush 10, 2) := by decide +kernel
theorem dX8_done_215 : decode cX8_done 215 = .ok (.iload_n 1, 1) := by decide +kernel
theorem dX8_done_216 : decode cX8_done 216 = .ok (.imul, 1) := by decide +kernel
theorem dX8_done_217 : decode cX8_done 217 = .ok (.iload_n 2, 1) := by decide +kernel
theorem dX8_done_218 : decode cX8_done 218 = .ok (.iadd, 1) := by decide +kernel
theorem dX8_done_219 : decode cX8_done 219 = .ok (.baload, 1) := by decide +kernel
theorem dX8_done_220 : decode cX8_done 220 = .ok (.bastore, 1) := by decide +kernel
theorem dX8_done_221 : decode cX8_done 221 = .ok (.aload_n 0, 1) := by decide +kernel
theorem dX8_done_222 : decode cX8_done 222 = .ok (.getfield 62, 3) := by decide +kernel
theorem dX8_done_225 : decode cX8_done 225 = .ok (.bipush 10, 2) := by decide +kernel
theorem dX8_done_227 : decode cX8_done 227 = .ok (.iload_n 1, 1) := by decide +kernel
theorem dX8_done_228 : decode cX8_done 228 = .ok (.iconst 1, 1) := by decide +kernel
theorem dX8_done_229 : decode cX8_done 229 = .ok (.iadd, 1) := by decide +kernel
theorem dX8_done_230 : decode cX8_done 230 = .ok (.imul, 1) := by decide +kernel
theorem dX8_done_231 : decode cX8_done 231 = .ok (.iload_n 2, 1) := by decide +kernel
theorem dX8_done_232 : decode cX8_done 232 = .ok (.iadd, 1) := by decide +kernel
theorem dX8_done_233 : decode cX8_done 233 = .ok (.aload_n 0, 1) := by decide +kernel
theorem dX8_done_234 : decode cX8_done 234 = .ok (.getfield 62, 3) := by decide +kernel
theorem dX8_done_237 : decode cX8_done 237 = .ok (.bipush 10, 2) := by decide +kernel
theorem dX8_done_239 : decode cX8_done 239 = .ok (.iload_n 1, 1) := by decide +kernel
theorem dX8_done_240 : decode cX8_done 240 = .ok (.imul, 1) := by decide +kernel
theorem dX8_done_241 : decode cX8_done 241 = .ok (.iload_n 2, 1) := by decide +kernel
theorem dX8_done_242 : decode cX8_done 242 = .ok (.iadd, 1) := by decide +kernel
theorem dX8_done_243 : decode cX8_done 243 = .ok (.iaload, 1) := by decide +kernel
theorem dX8_done_244 : decode cX8_done 244 = .ok (.iastore, 1) := by decide +kernel
theorem dX8_done_245 : decode cX8_done 245 = .ok (.iinc 2 1, 3) := by decide +kernel
theorem dX8_done_248 : decode cX8_done 248 = .ok (.goto (-57), 3) := by decide +kernel
theorem dX8_done_251 : decode cX8_done 251 = .ok (.aload_n 0, 1) := by decide +kernel
theorem dX8_done_252 : decode cX8_done 252 = .ok (.getfield 53, 3) := by decide +kernel
theorem dX8_done_255 : decode cX8_done 255 = .ok (.iload_n 1, 1) := by decide +kernel
theorem dX8_done_256 : decode cX8_done 256 = .ok (.iaload, 1) := by decide +kernel
theorem dX8_done_257 : decode cX8_done 257 = .ok (.istore_n 2, 1) := by decide +kernel
theorem dX8_done_258 : decode cX8_done 258 = .ok (.aload_n 0, 1) := by decide +kernel
theorem dX8_done_259 : decode cX8_done 259 = .ok (.getfield 72, 3) := by decide +kernel
theorem dX8_done_262 : decode cX8_done 262 = .ok (.iload_n 2, 1) := by decide +kernel
theorem dX8_done_263 : decode cX8_done 263 = .ok (.aload_n 0, 1) := by decide +kernel
theorem dX8_done_264 : decode cX8_done 264 = .ok (.iload_n 2, 1) := by decide +kernel
theorem dX8_done_265 : decode cX8_done 265 = .ok (.iload_n 1, 1) := by decide +kernel
theorem dX8_done_266 : decode cX8_done 266 = .ok (.iconst 1, 1) := by decide +kernel
theorem dX8_done_267 : decode cX8_done 267 = .ok (.iadd, 1) := by decide +kernel
theorem dX8_done_268 : decode cX8_done 268 = .ok (.invokevirtual 127, 3) := by decide +kernel
theorem dX8_done_271 : decode cX8_done 271 = .ok (.ifCond .ne 7, 3) := by decide +kernel
theorem dX8_done_274 : decode cX8_done 274 = .ok (.iconst 1, 1) := by decide +kernel
theorem dX8_done_275 : decode cX8_done 275 = .ok (.goto 4, 3) := by decide +kernel
theorem dX8_done_278 : decode cX8_done 278 = .ok (.iconst 0, 1) := by decide +kernel
theorem dX8_done_279 : decode cX8_done 279 = .ok (.bastore, 1) := by decide +kernel
theorem dX8_done_280 : decode cX8_done 280 = .ok (.aload_n 0, 1) := by decide +kernel
theorem dX8_done_281 : decode cX8_done 281 = .ok (.getfield 65, 3) := by decide +kernel
theorem dX8_done_284 : decode cX8_done 284 = .ok (.iload_n 2, 1) := by decide +kernel
theorem dX8_done_285 : decode cX8_done 285 = .ok (.iconst 0, 1) := by decide +kernel
theorem dX8_done_286 : decode cX8_done 286 = .ok (.iastore, 1) := by decide +kernel
theorem dX8_done_287 : decode cX8_done 287 = .ok (.iconst 0, 1) := by decide +kernel
theorem dX8_done_288 : decode cX8_done 288 = .ok (.istore_n 3, 1) := by decide +kernel
theorem dX8_done_289 : decode cX8_done 289 = .ok (.iload_n 3, 1) := by decide +kernel
theorem dX8_done_290 : decode cX8_done 290 = .ok (.bipush 36, 2) := by decide +kernel
theorem dX8_done_292 : decode cX8_done 292 = .ok (.if_icmp .ge 50, 3) := by decide +kernel
theorem dX8_done_295 : decode cX8_done 295 = .ok (.aload_n 0, 1) := by decide +kernel
theorem dX8_done_296 : decode cX8_done 296 = .ok (.getfield 65, 3) := by decide +kernel
theorem dX8_done_299 : decode cX8_done 299 = .ok (.iload_n 2, 1) := by decide +kernel
theorem dX8_done_300 : decode cX8_done 300 = .ok (.dup2, 1) := by decide +kernel
theorem dX8_done_301 : decode cX8_done 301 = .ok (.iaload, 1) := by decide +kernel
theorem dX8_done_302 : decode cX8_done 302 = .ok (.aload_n 0, 1) := by decide +kernel
theorem dX8_done_303 : decode cX8_done 303 = .ok (.getfield 59, 3) := by decide +kernel
theorem dX8_done_306 : decode cX8_done 306 = .ok (.bipush 36, 2) := by decide +kernel
theorem dX8_done_308 : decode cX8_done 308 = .ok (.iload_n 1, 1) := by decide +kernel
theorem dX8_done_309 : decode cX8_done 309 = .ok (.iconst 1, 1) := by decide +kernel
theorem dX8_done_310 : decode cX8_done 310 = .ok (.iadd, 1) := by decide +kernel
theorem dX8_done_311 : decode cX8_done 311 = .ok (.imul, 1) := by decide +kernel
theorem dX8_done_312 : decode cX8_done 312 = .ok (.iload_n 3, 1) := by decide +kernel
theorem dX8_done_313 : decode cX8_done 313 = .ok (.iadd, 1) := by decide +kernel
theorem dX8_done_314 : decode cX8_done 314 = .ok (.iaload, 1) := by decide +kernel
theorem dX8_done_315 : decode cX8_done 315 = .ok (.aload_n 0, 1) := by decide +kernel
theorem dX8_done_316 : decode cX8_done 316 = .ok (.getfield 59, 3) := by decide +kernel
theorem dX8_done_319 : decode cX8_done 319 = .ok (.bipush 36, 2) := by decide +kernel
theorem dX8_done_321 : decode cX8_done 321 = .ok (.iload_n 1, 1) := by decide +kernel
theorem dX8_done_322 : decode cX8_done 322 = .ok (.imul, 1) := by decide +kernel
theorem dX8_done_323 : decode cX8_done 323 = .ok (.iload_n 3, 1) := by decide +kernel
theorem dX8_done_324 : decode cX8_done 324 = .ok (.iadd, 1) := by decide +kernel
theorem dX8_done_325 : decode cX8_done 325 = .ok (.iaload, 1) := by decide +kernel
theorem dX8_done_326 : decode cX8_done 326 = .ok (.if_icmp .eq 7, 3) := by decide +kernel
theorem dX8_done_329 : decode cX8_done 329 = .ok (.iconst 1, 1) := by decide +kernel
theorem dX8_done_330 : decode cX8_done 330 = .ok (.goto 4, 3) := by decide +kernel
theorem dX8_done_333 : decode cX8_done 333 = .ok (.iconst 0, 1) := by decide +kernel
theorem dX8_done_334 : decode cX8_done 334 = .ok (.iadd, 1) := by decide +kernel
theorem dX8_done_335 : decode cX8_done 335 = .ok (.iastore, 1) := by decide +kernel
theorem dX8_done_336 : decode cX8_done 336 = .ok (.iinc 3 1, 3) := by decide +kernel
theorem dX8_done_339 : decode cX8_done 339 = .ok (.goto (-50), 3) := by decide +kernel
theorem dX8_done_342 : decode cX8_done 342 = .ok (.iinc 1 1, 3) := by decide +kernel
theorem dX8_done_345 : decode cX8_done 345 = .ok (.goto (-202), 3) := by decide +kernel
theorem dX8_done_348 : decode cX8_done 348 = .ok (.return_, 1) := by decide +kernel
theorem dX8_does_0 : decode cX8_does 0 = .ok (.aload_n 0, 1) := by decide +kernel
theorem dX8_does_1 : decode cX8_does 1 = .ok (.getfield 19, 3) := by decide +kernel
theorem dX8_does_4 : decode cX8_does 4 = .ok (.iload_n 1, 1) := by decide +kernel
theorem dX8_does_5 : decode cX8_does 5 = .ok (.iaload, 1) := by decide +kernel
theorem dX8_does_6 : decode cX8_does 6 = .ok (.istore_n 3, 1) := by decide +kernel
theorem dX8_does_7 : decode cX8_does 7 = .ok (.aload_n 0, 1) := by decide +kernel
theorem dX8_does_8 : decode cX8_does 8 = .ok (.getfield 22, 3) := by decide +kernel
theorem dX8_does_11 : decode cX8_does 11 = .ok (.iload_n 1, 1) := by decide +kernel
theorem dX8_does_12 : decode cX8_does 12 = .ok (.iaload, 1) := by decide +kernel
theorem dX8_does_13 : decode cX8_does 13 = .ok (.istore 4, 2) := by decide +kernel
theorem dX8_does_15 : decode cX8_does 15 = .ok (.aload_n 0, 1) := by decide +kernel
theorem dX8_does_16 : decode cX8_does 16 = .ok (.getfield 13, 3) := by decide +kernel
theorem dX8_does_19 : decode cX8_does 19 = .ok (.iload_n 1, 1) := by decide +kernel
theorem dX8_does_20 : decode cX8_does 20 = .ok (.iaload, 1) := by decide +kernel
theorem dX8_does_21 : decode cX8_does 21 = .ok (.tableswitch 250 0 3 #[31, 106, 158, 238], 31) := by decide +kernel
theorem dX8_does_52 : decode cX8_does 52 = .ok (.aload_n 0, 1) := by decide +kernel
theorem dX8_does_53 : decode cX8_does 53 = .ok (.getfield 68, 3) := by decide +kernel
theorem dX8_does_56 : decode cX8_does 56 = .ok (.bipush 10, 2) := by decide +kernel
theorem dX8_does_58 : decode cX8_does 58 = .ok (.iload_n 2, 1) := by decide +kernel
theorem dX8_does_59 : decode cX8_does 59 = .ok (.imul, 1) := by decide +kernel
theorem dX8_does_60 : decode cX8_does 60 = .ok (.iload_n 3, 1) := by decide +kernel
theorem dX8_does_61 : decode cX8_does 61 = .ok (.iadd, 1) := by decide +kernel
theorem dX8_does_62 : decode cX8_does 62 = .ok (.baload, 1) := by decide +kernel
theorem dX8_does_63 : decode cX8_does 63 = .ok (.ifCond .eq 5, 3) := by decide +kernel
theorem dX8_does_66 : decode cX8_does 66 = .ok (.iconst 0, 1) := by decide +kernel
theorem dX8_does_67 : decode cX8_does 67 = .ok (.ireturn, 1) := by decide +kernel
theorem dX8_does_68 : decode cX8_does 68 = .ok (.aload_n 0, 1) := by decide +kernel
theorem dX8_does_69 : decode cX8_does 69 = .ok (.getfield 68, 3) := by decide +kernel
theorem dX8_does_72 : decode cX8_does 72 = .ok (.bipush 10, 2) := by decide +kernel
theorem dX8_does_74 : decode cX8_does 74 = .ok (.iload_n 2, 1) := by decide +kernel
theorem dX8_does_75 : decode cX8_does 75 = .ok (.imul, 1) := by decide +kernel
theorem dX8_does_76 : decode cX8_does 76 = .ok (.iload_n 3, 1) := by decide +kernel
theorem dX8_does_77 : decode cX8_does 77 = .ok (.iadd, 1) := by decide +kernel
theorem dX8_does_78 : decode cX8_does 78 = .ok (.iconst 1, 1) := by decide +kernel
theorem dX8_does_79 : decode cX8_does 79 = .ok (.bastore, 1) := by decide +kernel
theorem dX8_does_80 : decode cX8_does 80 = .ok (.iconst 0, 1) := by decide +kernel
theorem dX8_does_81 : decode cX8_does 81 = .ok (.istore 5, 2) := by decide +kernel
theorem dX8_does_83 : decode cX8_does 83 = .ok (.iload 5, 2) := by decide +kernel
theorem dX8_does_85 : decode cX8_does 85 = .ok (.bipush 36, 2) := by decide +kernel
theorem dX8_does_87 : decode cX8_does 87 = .ok (.if_icmp .ge 38, 3) := by decide +kernel
theorem dX8_does_90 : decode cX8_does 90 = .ok (.aload_n 0, 1) := by decide +kernel
theorem dX8_does_91 : decode cX8_does 91 = .ok (.getfield 25, 3) := by decide +kernel
theorem dX8_does_94 : decode cX8_does 94 = .ok (.iload_n 1, 1) := by decide +kernel
theorem dX8_does_95 : decode cX8_does 95 = .ok (.laload, 1) := by decide +kernel
theorem dX8_does_96 : decode cX8_does 96 = .ok (.iload 5, 2) := by decide +kernel
theorem dX8_does_98 : decode cX8_does 98 = .ok (.lshr, 1) := by decide +kernel
theorem dX8_does_99 : decode cX8_does 99 = .ok (.lconst 1, 1) := by decide +kernel
theorem dX8_does_100 : decode cX8_does 100 = .ok (.land, 1) := by decide +kernel
theorem dX8_does_101 : decode cX8_does 101 = .ok (.lconst 1, 1) := by decide +kernel
theorem dX8_does_102 : decode cX8_does 102 = .ok (.lcmp, 1) := by decide +kernel
theorem dX8_does_103 : decode cX8_does 103 = .ok (.ifCond .ne 16, 3) := by decide +kernel
theorem dX8_does_106 : decode cX8_does 106 = .ok (.aload_n 0, 1) := by decide +kernel
theorem dX8_does_107 : decode cX8_does 107 = .ok (.getfield 59, 3) := by decide +kernel
theorem dX8_does_110 : decode cX8_does 110 = .ok (.bipush 36, 2) := by decide +kernel
theorem dX8_does_112 : decode cX8_does 112 = .ok (.iload_n 2, 1) := by decide +kernel
theorem dX8_does_113 : decode cX8_does 113 = .ok (.imul, 1) := by decide +kernel
theorem dX8_does_114 : decode cX8_does 114 = .ok (.iload 5, 2) := by decide +kernel
theorem dX8_does_116 : decode cX8_does 116 = .ok (.iadd, 1) := by decide +kernel
theorem dX8_does_117 : decode cX8_does 117 = .ok (.iload_n 3, 1) := by decide +kernel
theorem dX8_does_118 : decode cX8_does 118 = .ok (.iastore, 1) := by decide +kernel
theorem dX8_does_119 : decode cX8_does 119 = .ok (.iinc 5 1, 3) := by decide +kernel
theorem dX8_does_122 : decode cX8_does 122 = .ok (.goto (-39), 3) := by decide +kernel
theorem dX8_does_125 : decode cX8_does 125 = .ok (.iconst 1, 1) := by decide +kernel
theorem dX8_does_126 : decode cX8_does 126 = .ok (.ireturn, 1) := by decide +kernel
theorem dX8_does_127 : decode cX8_does 127 = .ok (.aload_n 0, 1) := by decide +kernel
theorem dX8_does_128 : decode cX8_does 128 = .ok (.getfield 68, 3) := by decide +kernel
theorem dX8_does_131 : decode cX8_does 131 = .ok (.bipush 10, 2) := by decide +kernel
theorem dX8_does_133 : decode cX8_does 133 = .ok (.iload_n 2, 1) := by decide +kernel
theorem dX8_does_134 : decode cX8_does 134 = .ok (.imul, 1) := by decide +kernel
theorem dX8_does_135 : decode cX8_does 135 = .ok (.iload_n 3, 1) := by decide +kernel
theorem dX8_does_136 : decode cX8_does 136 = .ok (.iadd, 1) := by decide +kernel
theorem dX8_does_137 : decode cX8_does 137 = .ok (.baload, 1) := by decide +kernel
theorem dX8_does_138 : decode cX8_does 138 = .ok (.ifCond .eq 39, 3) := by decide +kernel
theorem dX8_does_141 : decode cX8_does 141 = .ok (.aload_n 0, 1) := by decide +kernel
theorem dX8_does_142 : decode cX8_does 142 = .ok (.getfield 68, 3) := by decide +kernel
theorem dX8_does_145 : decode cX8_does 145 = .ok (.bipush 10, 2) := by decide +kernel
theorem dX8_does_147 : decode cX8_does 147 = .ok (.iload_n 2, 1) := by decide +kernel
theorem dX8_does_148 : decode cX8_does 148 = .ok (.imul, 1) := by decide +kernel
theorem dX8_does_149 : decode cX8_does 149 = .ok (.iload 4, 2) := by decide +kernel
theorem dX8_does_151 : decode cX8_does 151 = .ok (.iadd, 1) := by decide +kernel
theorem dX8_does_152 : decode cX8_does 152 = .ok (.baload, 1) := by decide +kernel
theorem dX8_does_153 : decode cX8_does 153 = .ok (.ifCond .eq 24, 3) := by decide +kernel
theorem dX8_does_156 : decode cX8_does 156 = .ok (.aload_n 0, 1) := by decide +kernel
theorem dX8_does_157 : decode cX8_does 157 = .ok (.iload_n 2, 1) := by decide +kernel
theorem dX8_does_158 : decode cX8_does 158 = .ok (.iload_n 3, 1) := by decide +kernel
theorem dX8_does_159 : decode cX8_does 159 = .ok (.iload 4, 2) := by decide +kernel
theorem dX8_does_161 : decode cX8_does 161 = .ok (.aload_n 0, 1) := by decide +kernel
theorem dX8_does_162 : decode cX8_does 162 = .ok (.getfield 25, 3) := by decide +kernel
theorem dX8_does_165 : decode cX8_does 165 = .ok (.iload_n 1, 1) := by decide +kernel
theorem dX8_does_166 : decode cX8_does 166 = .ok (.laload, 1) := by decide +kernel
theorem dX8_does_167 : decode cX8_does 167 = .ok (.invokevirtual 131, 3) := by decide +kernel
theorem dX8_does_170 : decode cX8_does 170 = .ok (.ifCond .le 7, 3) := by decide +kernel
theorem dX8_does_173 : decode cX8_does 173 = .ok (.iconst 1, 1) := by decide +kernel
theorem dX8_does_174 : decode cX8_does 174 = .ok (.goto 4, 3) := by decide +kernel
theorem dX8_does_177 : decode cX8_does 177 = .ok (.iconst 0, 1) := by decide +kernel
theorem dX8_does_178 : decode cX8_does 178 = .ok (.ireturn, 1) := by decide +kernel
theorem dX8_does_179 : decode cX8_does 179 = .ok (.aload_n 0, 1) := by decide +kernel
theorem dX8_does_180 : decode cX8_does 180 = .ok (.getfield 68, 3) := by decide +kernel
theorem dX8_does_183 : decode cX8_does 183 = .ok (.bipush 10, 2) := by decide +kernel
theorem dX8_does_185 : decode cX8_does 185 = .ok (.iload_n 2, 1) := by decide +kernel
theorem dX8_does_186 : decode cX8_does 186 = .ok (.imul, 1) := by decide +kernel
theorem dX8_does_187 : decode cX8_does 187 = .ok (.iload_n 3, 1) := by decide +kernel
theorem dX8_does_188 : decode cX8_does 188 = .ok (.iadd, 1) := by decide +kernel
theorem dX8_does_189 : decode cX8_does 189 = .ok (.baload, 1) := by decide +kernel
theorem dX8_does_190 : decode cX8_does 190 = .ok (.ifCond .eq 28, 3) := by decide +kernel
theorem dX8_does_193 : decode cX8_does 193 = .ok (.aload_n 0, 1) := by decide +kernel
theorem dX8_does_194 : decode cX8_does 194 = .ok (.getfield 68, 3) := by decide +kernel
theorem dX8_does_197 : decode cX8_does 197 = .ok (.bipush 10, 2) := by decide +kernel
theorem dX8_does_199 : decode cX8_does 199 = .ok (.iload_n 2, 1) := by decide +kernel
theorem dX8_does_200 : decode cX8_does 200 = .ok (.imul, 1) := by decide +kernel
theorem dX8_does_201 : decode cX8_does 201 = .ok (.iload 4, 2) := by decide +kernel
theorem dX8_does_203 : decode cX8_does 203 = .ok (.iadd, 1) := by decide +kernel
theorem dX8_does_204 : decode cX8_does 204 = .ok (.baload, 1) := by decide +kernel
theorem dX8_does_205 : decode cX8_does 205 = .ok (.ifCond .eq 13, 3) := by decide +kernel
theorem dX8_does_208 : decode cX8_does 208 = .ok (.aload_n 0, 1) := by decide +kernel
theorem dX8_does_209 : decode cX8_does 209 = .ok (.getfield 9, 3) := by decide +kernel
theorem dX8_does_212 : decode cX8_does 212 = .ok (.iload_n 3, 1) := by decide +kernel
theorem dX8_does_213 : decode cX8_does 213 = .ok (.iaload, 1) := by decide +kernel
theorem dX8_does_214 : decode cX8_does 214 = .ok (.iconst 2, 1) := by decide +kernel
theorem dX8_does_215 : decode cX8_does 215 = .ok (.if_icmp .ne 5, 3) := by decide +kernel
theorem dX8_does_218 : decode cX8_does 218 = .ok (.iconst 0, 1) := by decide +kernel
theorem dX8_does_219 : decode cX8_does 219 = .ok (.ireturn, 1) := by decide +kernel
theorem dX8_does_220 : decode cX8_does 220 = .ok (.aload_n 0, 1) := by decide +kernel
theorem dX8_does_221 : decode cX8_does 221 = .ok (.iload_n 2, 1) := by decide +kernel
theorem dX8_does_222 : decode cX8_does 222 = .ok (.iload_n 3, 1) := by decide +kernel
theorem dX8_does_223 : decode cX8_does 223 = .ok (.iload 4, 2) := by decide +kernel
theorem dX8_does_225 : decode cX8_does 225 = .ok (.ldc2_w 135, 3) := by decide +kernel
theorem dX8_does_228 : decode cX8_does 228 = .ok (.invokevirtual 131, 3) := by decide +kernel
theorem dX8_does_231 : decode cX8_does 231 = .ok (.istore 5, 2) := by decide +kernel
theorem dX8_does_233 : decode cX8_does 233 = .ok (.aload_n 0, 1) := by decide +kernel
theorem dX8_does_234 : decode cX8_does 234 = .ok (.getfield 68, 3) := by decide +kernel
theorem dX8_does_237 : decode cX8_does 237 = .ok (.bipush 10, 2) := by decide +kernel
theorem dX8_does_239 : decode cX8_does 239 = .ok (.iload_n 2, 1) := by decide +kernel
theorem dX8_does_240 : decode cX8_does 240 = .ok (.imul, 1) := by decide +kernel
theorem dX8_does_241 : decode cX8_does 241 = .ok (.iload_n 3, 1) := by decide +kernel
theorem dX8_does_242 : decode cX8_does 242 = .ok (.iadd, 1) := by decide +kernel
theorem dX8_does_243 : decode cX8_does 243 = .ok (.iconst 0, 1) := by decide +kernel
theorem dX8_does_244 : decode cX8_does 244 = .ok (.bastore, 1) := by decide +kernel
theorem dX8_does_245 : decode cX8_does 245 = .ok (.aload_n 0, 1) := by decide +kernel
theorem dX8_does_246 : decode cX8_does 246 = .ok (.getfield 62, 3) := by decide +kernel
theorem dX8_does_249 : decode cX8_does 249 = .ok (.bipush 10, 2) := by decide +kernel
theorem dX8_does_251 : decode cX8_does 251 = .ok (.iload_n 2, 1) := by decide +kernel
theorem dX8_does_252 : decode cX8_does 252 = .ok (.imul, 1) := by decide +kernel
theorem dX8_does_253 : decode cX8_does 253 = .ok (.iload_n 3, 1) := by decide +kernel
theorem dX8_does_254 : decode cX8_does 254 = .ok (.iadd, 1) := by decide +kernel
theorem dX8_does_255 : decode cX8_does 255 = .ok (.iconst (-1), 1) := by decide +kernel
theorem dX8_does_256 : decode cX8_does 256 = .ok (.iastore, 1) := by decide +kernel
theorem dX8_does_257 : decode cX8_does 257 = .ok (.iconst 1, 1) := by decide +kernel
theorem dX8_does_258 : decode cX8_does 258 = .ok (.ireturn, 1) := by decide +kernel
theorem dX8_does_259 : decode cX8_does 259 = .ok (.aload_n 0, 1) := by decide +kernel
theorem dX8_does_260 : decode cX8_does 260 = .ok (.aload_n 0, 1) := by decide +kernel
theorem dX8_does_261 : decode cX8_does 261 = .ok (.getfield 56, 3) := by decide +kernel
theorem dX8_does_264 : decode cX8_does 264 = .ok (.iload_n 3, 1) := by decide +kernel
theorem dX8_does_265 : decode cX8_does 265 = .ok (.iaload, 1) := by decide +kernel
theorem dX8_does_266 : decode cX8_does 266 = .ok (.iload_n 2, 1) := by decide +kernel
theorem dX8_does_267 : decode cX8_does 267 = .ok (.invokevirtual 137, 3) := by decide +kernel
theorem dX8_does_270 : decode cX8_does 270 = .ok (.ireturn, 1) := by decide +kernel
theorem dX8_does_271 : decode cX8_does 271 = .ok (.aload_n 0, 1) := by decide +kernel
theorem dX8_does_272 : decode cX8_does 272 = .ok (.getfield 68, 3) := by decide +kernel
theorem dX8_does_275 : decode cX8_does 275 = .ok (.bipush 10, 2) := by decide +kernel
theorem dX8_does_277 : decode cX8_does 277 = .ok (.iload_n 2, 1) := by decide +kernel
theorem dX8_does_278 : decode cX8_does 278 = .ok (.imul, 1) := by decide +kernel
theorem dX8_does_279 : decode cX8_does 279 = .ok (.iload_n 3, 1) := by decide +kernel
theorem dX8_does_280 : decode cX8_does 280 = .ok (.iadd, 1) := by decide +kernel
theorem dX8_does_281 : decode cX8_does 281 = .ok (.baload, 1) := by decide +kernel
theorem dX8_does_282 : decode cX8_does 282 = .ok (.ifCond .ne 5, 3) := by decide +kernel
theorem dX8_does_285 : decode cX8_does 285 = .ok (.iconst 0, 1) := by decide +kernel
theorem dX8_does_286 : decode cX8_does 286 = .ok (.ireturn, 1) := by decide +kernel
theorem dX8_does_287 : decode cX8_does 287 = .ok (.aload_n 0, 1) := by decide +kernel
theorem dX8_does_288 : decode cX8_does 288 = .ok (.getfield 62, 3) := by decide +kernel
theorem dX8_does_291 : decode cX8_does 291 = .ok (.bipush 10, 2) := by decide +kernel
theorem dX8_does_293 : decode cX8_does 293 = .ok (.iload_n 2, 1) := by decide +kernel
theorem dX8_does_294 : decode cX8_does 294 = .ok (.imul, 1) := by decide +kernel
theorem dX8_does_295 : decode cX8_does 295 = .ok (.iload_n 3, 1) := by decide +kernel
theorem dX8_does_296 : decode cX8_does 296 = .ok (.iadd, 1) := by decide +kernel
theorem dX8_does_297 : decode cX8_does 297 = .ok (.iload 4, 2) := by decide +kernel
theorem dX8_does_299 : decode cX8_does 299 = .ok (.iastore, 1) := by decide +kernel
theorem dX8_does_300 : decode cX8_does 300 = .ok (.iconst 1, 1) := by decide +kernel
theorem dX8_does_301 : decode cX8_does 301 = .ok (.ireturn, 1) := by decide +kernel
theorem dX8_gives_0 : decode cX8_gives 0 = .ok (.iconst 0, 1) := by decide +kernel
theorem dX8_gives_1 : decode cX8_gives 1 = .ok (.istore 6, 2) := by decide +kernel
theorem dX8_gives_3 : decode cX8_gives 3 = .ok (.iconst 0, 1) := by decide +kernel
theorem dX8_gives_4 : decode cX8_gives 4 = .ok (.istore 7, 2) := by decide +kernel
theorem dX8_gives_6 : decode cX8_gives 6 = .ok (.iload 7, 2) := by decide +kernel
theorem dX8_gives_8 : decode cX8_gives 8 = .ok (.bipush 36, 2) := by decide +kernel
theorem dX8_gives_10 : decode cX8_gives 10 = .ok (.if_icmp .ge 56, 3) := by decide +kernel
theorem dX8_gives_13 : decode cX8_gives 13 = .ok (.aload_n 0, 1) := by decide +kernel
theorem dX8_gives_14 : decode cX8_gives 14 = .ok (.getfield 59, 3) := by decide +kernel
theorem dX8_gives_17 : decode cX8_gives 17 = .ok (.bipush 36, 2) := by decide +kernel
theorem dX8_gives_19 : decode cX8_gives 19 = .ok (.iload_n 1, 1) := by decide +kernel
theorem dX8_gives_20 : decode cX8_gives 20 = .ok (.imul, 1) := by decide +kernel
theorem dX8_gives_21 : decode cX8_gives 21 = .ok (.iload 7, 2) := by decide +kernel
theorem dX8_gives_23 : decode cX8_gives 23 = .ok (.iadd, 1) := by decide +kernel
theorem dX8_gives_24 : decode cX8_gives 24 = .ok (.iaload, 1) := by decide +kernel
theorem dX8_gives_25 : decode cX8_gives 25 = .ok (.iload_n 2, 1) := by decide +kernel
theorem dX8_gives_26 : decode cX8_gives 26 = .ok (.if_icmp .ne 34, 3) := by decide +kernel
theorem dX8_gives_29 : decode cX8_gives 29 = .ok (.lload 4, 2) := by decide +kernel
theorem dX8_gives_31 : decode cX8_gives 31 = .ok (.iload 7, 2) := by decide +kernel
theorem dX8_gives_33 : decode cX8_gives 33 = .ok (.lshr, 1) := by decide +kernel
theorem dX8_gives_34 : decode cX8_gives 34 = .ok (.lconst 1, 1) := by decide +kernel
theorem dX8_gives_35 : decode cX8_gives 35 = .ok (.land, 1) := by decide +kernel
theorem dX8_gives_36 : decode cX8_gives 36 = .ok (.lconst 0, 1) := by decide +kernel
theorem dX8_gives_37 : decode cX8_gives 37 = .ok (.lcmp, 1) := by decide +kernel
theorem dX8_gives_38 : decode cX8_gives 38 = .ok (.ifCond .ne 6, 3) := by decide +kernel
theorem dX8_gives_41 : decode cX8_gives 41 = .ok (.goto 19, 3) := by decide +kernel
end
section
theorem dX8_gives_44 : decode cX8_gives 44 = .ok (.aload_n 0, 1) := by decide +kernel
theorem dX8_gives_45 : decode cX8_gives 45 = .ok (.getfield 59, 3) := by decide +kernel
theorem dX8_gives_48 : decode cX8_gives 48 = .ok (.bipush 36, 2) := by decide +kernel
theorem dX8_gives_50 : decode cX8_gives 50 = .ok (.iload_n 1, 1) := by decide +kernel
theorem dX8_gives_51 : decode cX8_gives 51 = .ok (.imul, 1) := by decide +kernel
theorem dX8_gives_52 : decode cX8_gives 52 = .ok (.iload 7, 2) := by decide +kernel
theorem dX8_gives_54 : decode cX8_gives 54 = .ok (.iadd, 1) := by decide +kernel
theorem dX8_gives_55 : decode cX8_gives 55 = .ok (.iload_n 3, 1) := by decide +kernel
theorem dX8_gives_56 : decode cX8_gives 56 = .ok (.iastore, 1) := by decide +kernel
theorem dX8_gives_57 : decode cX8_gives 57 = .ok (.iinc 6 1, 3) := by decide +kernel
theorem dX8_gives_60 : decode cX8_gives 60 = .ok (.iinc 7 1, 3) := by decide +kernel
theorem dX8_gives_63 : decode cX8_gives 63 = .ok (.goto (-57), 3) := by decide +kernel
theorem dX8_gives_66 : decode cX8_gives 66 = .ok (.iload 6, 2) := by decide +kernel
theorem dX8_gives_68 : decode cX8_gives 68 = .ok (.ireturn, 1) := by decide +kernel
theorem dX8_turnsBack_0 : decode cX8_turnsBack 0 = .ok (.iconst 0, 1) := by decide +kernel
theorem dX8_turnsBack_1 : decode cX8_turnsBack 1 = .ok (.istore_n 3, 1) := by decide +kernel
theorem dX8_turnsBack_2 : decode cX8_turnsBack 2 = .ok (.iconst 0, 1) := by decide +kernel
theorem dX8_turnsBack_3 : decode cX8_turnsBack 3 = .ok (.istore 4, 2) := by decide +kernel
theorem dX8_turnsBack_5 : decode cX8_turnsBack 5 = .ok (.iload 4, 2) := by decide +kernel
theorem dX8_turnsBack_7 : decode cX8_turnsBack 7 = .ok (.bipush 36, 2) := by decide +kernel
theorem dX8_turnsBack_9 : decode cX8_turnsBack 9 = .ok (.if_icmp .ge 104, 3) := by decide +kernel
theorem dX8_turnsBack_12 : decode cX8_turnsBack 12 = .ok (.aload_n 0, 1) := by decide +kernel
theorem dX8_turnsBack_13 : decode cX8_turnsBack 13 = .ok (.getfield 59, 3) := by decide +kernel
theorem dX8_turnsBack_16 : decode cX8_turnsBack 16 = .ok (.bipush 36, 2) := by decide +kernel
theorem dX8_turnsBack_18 : decode cX8_turnsBack 18 = .ok (.iload_n 1, 1) := by decide +kernel
theorem dX8_turnsBack_19 : decode cX8_turnsBack 19 = .ok (.imul, 1) := by decide +kernel
theorem dX8_turnsBack_20 : decode cX8_turnsBack 20 = .ok (.iload 4, 2) := by decide +kernel
theorem dX8_turnsBack_22 : decode cX8_turnsBack 22 = .ok (.iadd, 1) := by decide +kernel
theorem dX8_turnsBack_23 : decode cX8_turnsBack 23 = .ok (.iaload, 1) := by decide +kernel
theorem dX8_turnsBack_24 : decode cX8_turnsBack 24 = .ok (.istore 5, 2) := by decide +kernel
theorem dX8_turnsBack_26 : decode cX8_turnsBack 26 = .ok (.aload_n 0, 1) := by decide +kernel
theorem dX8_turnsBack_27 : decode cX8_turnsBack 27 = .ok (.getfield 59, 3) := by decide +kernel
theorem dX8_turnsBack_30 : decode cX8_turnsBack 30 = .ok (.bipush 36, 2) := by decide +kernel
theorem dX8_turnsBack_32 : decode cX8_turnsBack 32 = .ok (.iload_n 1, 1) := by decide +kernel
theorem dX8_turnsBack_33 : decode cX8_turnsBack 33 = .ok (.iconst 1, 1) := by decide +kernel
theorem dX8_turnsBack_34 : decode cX8_turnsBack 34 = .ok (.iadd, 1) := by decide +kernel
theorem dX8_turnsBack_35 : decode cX8_turnsBack 35 = .ok (.imul, 1) := by decide +kernel
theorem dX8_turnsBack_36 : decode cX8_turnsBack 36 = .ok (.iload 4, 2) := by decide +kernel
theorem dX8_turnsBack_38 : decode cX8_turnsBack 38 = .ok (.iadd, 1) := by decide +kernel
theorem dX8_turnsBack_39 : decode cX8_turnsBack 39 = .ok (.iaload, 1) := by decide +kernel
theorem dX8_turnsBack_40 : decode cX8_turnsBack 40 = .ok (.istore 6, 2) := by decide +kernel
theorem dX8_turnsBack_42 : decode cX8_turnsBack 42 = .ok (.iload 5, 2) := by decide +kernel
theorem dX8_turnsBack_44 : decode cX8_turnsBack 44 = .ok (.iload 6, 2) := by decide +kernel
theorem dX8_turnsBack_46 : decode cX8_turnsBack 46 = .ok (.if_icmp .eq 61, 3) := by decide +kernel
theorem dX8_turnsBack_49 : decode cX8_turnsBack 49 = .ok (.aload_n 0, 1) := by decide +kernel
theorem dX8_turnsBack_50 : decode cX8_turnsBack 50 = .ok (.getfield 59, 3) := by decide +kernel
theorem dX8_turnsBack_53 : decode cX8_turnsBack 53 = .ok (.bipush 36, 2) := by decide +kernel
theorem dX8_turnsBack_55 : decode cX8_turnsBack 55 = .ok (.iload_n 2, 1) := by decide +kernel
theorem dX8_turnsBack_56 : decode cX8_turnsBack 56 = .ok (.imul, 1) := by decide +kernel
theorem dX8_turnsBack_57 : decode cX8_turnsBack 57 = .ok (.iload 4, 2) := by decide +kernel
theorem dX8_turnsBack_59 : decode cX8_turnsBack 59 = .ok (.iadd, 1) := by decide +kernel
theorem dX8_turnsBack_60 : decode cX8_turnsBack 60 = .ok (.iaload, 1) := by decide +kernel
theorem dX8_turnsBack_61 : decode cX8_turnsBack 61 = .ok (.iload 6, 2) := by decide +kernel
theorem dX8_turnsBack_63 : decode cX8_turnsBack 63 = .ok (.if_icmp .ne 44, 3) := by decide +kernel
theorem dX8_turnsBack_66 : decode cX8_turnsBack 66 = .ok (.iload 5, 2) := by decide +kernel
theorem dX8_turnsBack_68 : decode cX8_turnsBack 68 = .ok (.bipush 10, 2) := by decide +kernel
theorem dX8_turnsBack_70 : decode cX8_turnsBack 70 = .ok (.if_icmp .eq 21, 3) := by decide +kernel
theorem dX8_turnsBack_73 : decode cX8_turnsBack 73 = .ok (.aload_n 0, 1) := by decide +kernel
theorem dX8_turnsBack_74 : decode cX8_turnsBack 74 = .ok (.getfield 68, 3) := by decide +kernel
theorem dX8_turnsBack_77 : decode cX8_turnsBack 77 = .ok (.bipush 10, 2) := by decide +kernel
theorem dX8_turnsBack_79 : decode cX8_turnsBack 79 = .ok (.iload_n 2, 1) := by decide +kernel
theorem dX8_turnsBack_80 : decode cX8_turnsBack 80 = .ok (.imul, 1) := by decide +kernel
theorem dX8_turnsBack_81 : decode cX8_turnsBack 81 = .ok (.iload 5, 2) := by decide +kernel
theorem dX8_turnsBack_83 : decode cX8_turnsBack 83 = .ok (.iadd, 1) := by decide +kernel
theorem dX8_turnsBack_84 : decode cX8_turnsBack 84 = .ok (.baload, 1) := by decide +kernel
theorem dX8_turnsBack_85 : decode cX8_turnsBack 85 = .ok (.ifCond .ne 6, 3) := by decide +kernel
theorem dX8_turnsBack_88 : decode cX8_turnsBack 88 = .ok (.goto 19, 3) := by decide +kernel
theorem dX8_turnsBack_91 : decode cX8_turnsBack 91 = .ok (.aload_n 0, 1) := by decide +kernel
theorem dX8_turnsBack_92 : decode cX8_turnsBack 92 = .ok (.getfield 59, 3) := by decide +kernel
theorem dX8_turnsBack_95 : decode cX8_turnsBack 95 = .ok (.bipush 36, 2) := by decide +kernel
theorem dX8_turnsBack_97 : decode cX8_turnsBack 97 = .ok (.iload_n 2, 1) := by decide +kernel
theorem dX8_turnsBack_98 : decode cX8_turnsBack 98 = .ok (.imul, 1) := by decide +kernel
theorem dX8_turnsBack_99 : decode cX8_turnsBack 99 = .ok (.iload 4, 2) := by decide +kernel
theorem dX8_turnsBack_101 : decode cX8_turnsBack 101 = .ok (.iadd, 1) := by decide +kernel
theorem dX8_turnsBack_102 : decode cX8_turnsBack 102 = .ok (.iload 5, 2) := by decide +kernel
theorem dX8_turnsBack_104 : decode cX8_turnsBack 104 = .ok (.iastore, 1) := by decide +kernel
theorem dX8_turnsBack_105 : decode cX8_turnsBack 105 = .ok (.iconst 1, 1) := by decide +kernel
theorem dX8_turnsBack_106 : decode cX8_turnsBack 106 = .ok (.istore_n 3, 1) := by decide +kernel
theorem dX8_turnsBack_107 : decode cX8_turnsBack 107 = .ok (.iinc 4 1, 3) := by decide +kernel
theorem dX8_turnsBack_110 : decode cX8_turnsBack 110 = .ok (.goto (-105), 3) := by decide +kernel
theorem dX8_turnsBack_113 : decode cX8_turnsBack 113 = .ok (.iload_n 3, 1) := by decide +kernel
theorem dX8_turnsBack_114 : decode cX8_turnsBack 114 = .ok (.ireturn, 1) := by decide +kernel
theorem dX8_until_0 : decode cX8_until 0 = .ok (.iconst 0, 1) := by decide +kernel
theorem dX8_until_1 : decode cX8_until 1 = .ok (.istore_n 2, 1) := by decide +kernel
theorem dX8_until_2 : decode cX8_until 2 = .ok (.iconst 0, 1) := by decide +kernel
theorem dX8_until_3 : decode cX8_until 3 = .ok (.istore_n 3, 1) := by decide +kernel
theorem dX8_until_4 : decode cX8_until 4 = .ok (.iload_n 3, 1) := by decide +kernel
theorem dX8_until_5 : decode cX8_until 5 = .ok (.aload_n 0, 1) := by decide +kernel
theorem dX8_until_6 : decode cX8_until 6 = .ok (.getfield 112, 3) := by decide +kernel
theorem dX8_until_9 : decode cX8_until 9 = .ok (.if_icmp .ge 27, 3) := by decide +kernel
theorem dX8_until_12 : decode cX8_until 12 = .ok (.iload_n 2, 1) := by decide +kernel
theorem dX8_until_13 : decode cX8_until 13 = .ok (.aload_n 0, 1) := by decide +kernel
theorem dX8_until_14 : decode cX8_until 14 = .ok (.getfield 16, 3) := by decide +kernel
theorem dX8_until_17 : decode cX8_until 17 = .ok (.iload_n 3, 1) := by decide +kernel
theorem dX8_until_18 : decode cX8_until 18 = .ok (.iaload, 1) := by decide +kernel
theorem dX8_until_19 : decode cX8_until 19 = .ok (.iload_n 1, 1) := by decide +kernel
theorem dX8_until_20 : decode cX8_until 20 = .ok (.if_icmp .gt 7, 3) := by decide +kernel
theorem dX8_until_23 : decode cX8_until 23 = .ok (.iconst 1, 1) := by decide +kernel
theorem dX8_until_24 : decode cX8_until 24 = .ok (.goto 4, 3) := by decide +kernel
theorem dX8_until_27 : decode cX8_until 27 = .ok (.iconst 0, 1) := by decide +kernel
theorem dX8_until_28 : decode cX8_until 28 = .ok (.iadd, 1) := by decide +kernel
theorem dX8_until_29 : decode cX8_until 29 = .ok (.istore_n 2, 1) := by decide +kernel
theorem dX8_until_30 : decode cX8_until 30 = .ok (.iinc 3 1, 3) := by decide +kernel
theorem dX8_until_33 : decode cX8_until 33 = .ok (.goto (-29), 3) := by decide +kernel
theorem dX8_until_36 : decode cX8_until 36 = .ok (.iload_n 2, 1) := by decide +kernel
theorem dX8_until_37 : decode cX8_until 37 = .ok (.ireturn, 1) := by decide +kernel
theorem dX8_held_0 : decode cX8_held 0 = .ok (.lconst 0, 1) := by decide +kernel
theorem dX8_held_1 : decode cX8_held 1 = .ok (.lstore_n 3, 1) := by decide +kernel
theorem dX8_held_2 : decode cX8_held 2 = .ok (.iconst 0, 1) := by decide +kernel
theorem dX8_held_3 : decode cX8_held 3 = .ok (.istore 5, 2) := by decide +kernel
theorem dX8_held_5 : decode cX8_held 5 = .ok (.iload 5, 2) := by decide +kernel
theorem dX8_held_7 : decode cX8_held 7 = .ok (.bipush 36, 2) := by decide +kernel
theorem dX8_held_9 : decode cX8_held 9 = .ok (.if_icmp .ge 83, 3) := by decide +kernel
theorem dX8_held_12 : decode cX8_held 12 = .ok (.aload_n 0, 1) := by decide +kernel
theorem dX8_held_13 : decode cX8_held 13 = .ok (.getfield 59, 3) := by decide +kernel
theorem dX8_held_16 : decode cX8_held 16 = .ok (.bipush 36, 2) := by decide +kernel
theorem dX8_held_18 : decode cX8_held 18 = .ok (.iload_n 2, 1) := by decide +kernel
theorem dX8_held_19 : decode cX8_held 19 = .ok (.imul, 1) := by decide +kernel
theorem dX8_held_20 : decode cX8_held 20 = .ok (.iload 5, 2) := by decide +kernel
theorem dX8_held_22 : decode cX8_held 22 = .ok (.iadd, 1) := by decide +kernel
theorem dX8_held_23 : decode cX8_held 23 = .ok (.iaload, 1) := by decide +kernel
theorem dX8_held_24 : decode cX8_held 24 = .ok (.istore 6, 2) := by decide +kernel
theorem dX8_held_26 : decode cX8_held 26 = .ok (.iload 6, 2) := by decide +kernel
theorem dX8_held_28 : decode cX8_held 28 = .ok (.iload_n 1, 1) := by decide +kernel
theorem dX8_held_29 : decode cX8_held 29 = .ok (.if_icmp .eq 34, 3) := by decide +kernel
theorem dX8_held_32 : decode cX8_held 32 = .ok (.iload 6, 2) := by decide +kernel
theorem dX8_held_34 : decode cX8_held 34 = .ok (.bipush 10, 2) := by decide +kernel
theorem dX8_held_36 : decode cX8_held 36 = .ok (.if_icmp .eq 31, 3) := by decide +kernel
theorem dX8_held_39 : decode cX8_held 39 = .ok (.aload_n 0, 1) := by decide +kernel
theorem dX8_held_40 : decode cX8_held 40 = .ok (.iload_n 1, 1) := by decide +kernel
theorem dX8_held_41 : decode cX8_held 41 = .ok (.invokevirtual 118, 3) := by decide +kernel
theorem dX8_held_44 : decode cX8_held 44 = .ok (.ifCond .eq 23, 3) := by decide +kernel
theorem dX8_held_47 : decode cX8_held 47 = .ok (.aload_n 0, 1) := by decide +kernel
theorem dX8_held_48 : decode cX8_held 48 = .ok (.getfield 62, 3) := by decide +kernel
theorem dX8_held_51 : decode cX8_held 51 = .ok (.bipush 10, 2) := by decide +kernel
theorem dX8_held_53 : decode cX8_held 53 = .ok (.iload_n 2, 1) := by decide +kernel
theorem dX8_held_54 : decode cX8_held 54 = .ok (.imul, 1) := by decide +kernel
theorem dX8_held_55 : decode cX8_held 55 = .ok (.iload 6, 2) := by decide +kernel
theorem dX8_held_57 : decode cX8_held 57 = .ok (.iadd, 1) := by decide +kernel
theorem dX8_held_58 : decode cX8_held 58 = .ok (.iaload, 1) := by decide +kernel
theorem dX8_held_59 : decode cX8_held 59 = .ok (.iload_n 1, 1) := by decide +kernel
theorem dX8_held_60 : decode cX8_held 60 = .ok (.if_icmp .ne 7, 3) := by decide +kernel
theorem dX8_held_63 : decode cX8_held 63 = .ok (.iconst 1, 1) := by decide +kernel
theorem dX8_held_64 : decode cX8_held 64 = .ok (.goto 4, 3) := by decide +kernel
theorem dX8_held_67 : decode cX8_held 67 = .ok (.iconst 0, 1) := by decide +kernel
theorem dX8_held_68 : decode cX8_held 68 = .ok (.istore 7, 2) := by decide +kernel
theorem dX8_held_70 : decode cX8_held 70 = .ok (.lload_n 3, 1) := by decide +kernel
theorem dX8_held_71 : decode cX8_held 71 = .ok (.iload 7, 2) := by decide +kernel
theorem dX8_held_73 : decode cX8_held 73 = .ok (.ifCond .eq 10, 3) := by decide +kernel
theorem dX8_held_76 : decode cX8_held 76 = .ok (.lconst 1, 1) := by decide +kernel
theorem dX8_held_77 : decode cX8_held 77 = .ok (.iload 5, 2) := by decide +kernel
theorem dX8_held_79 : decode cX8_held 79 = .ok (.lshl, 1) := by decide +kernel
theorem dX8_held_80 : decode cX8_held 80 = .ok (.goto 4, 3) := by decide +kernel
theorem dX8_held_83 : decode cX8_held 83 = .ok (.lconst 0, 1) := by decide +kernel
theorem dX8_held_84 : decode cX8_held 84 = .ok (.lor, 1) := by decide +kernel
theorem dX8_held_85 : decode cX8_held 85 = .ok (.lstore_n 3, 1) := by decide +kernel
theorem dX8_held_86 : decode cX8_held 86 = .ok (.iinc 5 1, 3) := by decide +kernel
theorem dX8_held_89 : decode cX8_held 89 = .ok (.goto (-84), 3) := by decide +kernel
theorem dX8_held_92 : decode cX8_held 92 = .ok (.lload_n 3, 1) := by decide +kernel
theorem dX8_held_93 : decode cX8_held 93 = .ok (.lreturn, 1) := by decide +kernel
theorem dX8_act_0 : decode cX8_act 0 = .ok (.iload_n 1, 1) := by decide +kernel
theorem dX8_act_1 : decode cX8_act 1 = .ok (.i2l, 1) := by decide +kernel
theorem dX8_act_2 : decode cX8_act 2 = .ok (.lconst 0, 1) := by decide +kernel
theorem dX8_act_3 : decode cX8_act 3 = .ok (.aload_n 0, 1) := by decide +kernel
theorem dX8_act_4 : decode cX8_act 4 = .ok (.getfield 112, 3) := by decide +kernel
theorem dX8_act_7 : decode cX8_act 7 = .ok (.iconst 1, 1) := by decide +kernel
theorem dX8_act_8 : decode cX8_act 8 = .ok (.isub, 1) := by decide +kernel
theorem dX8_act_9 : decode cX8_act 9 = .ok (.i2l, 1) := by decide +kernel
theorem dX8_act_10 : decode cX8_act 10 = .ok (.invokestatic 86, 3) := by decide +kernel
theorem dX8_act_13 : decode cX8_act 13 = .ok (.ifCond .eq 15, 3) := by decide +kernel
theorem dX8_act_16 : decode cX8_act 16 = .ok (.iload_n 2, 1) := by decide +kernel
theorem dX8_act_17 : decode cX8_act 17 = .ok (.i2l, 1) := by decide +kernel
theorem dX8_act_18 : decode cX8_act 18 = .ok (.lconst 0, 1) := by decide +kernel
theorem dX8_act_19 : decode cX8_act 19 = .ok (.ldc2_w 140, 3) := by decide +kernel
theorem dX8_act_22 : decode cX8_act 22 = .ok (.invokestatic 86, 3) := by decide +kernel
theorem dX8_act_25 : decode cX8_act 25 = .ok (.ifCond .ne 11, 3) := by decide +kernel
theorem dX8_act_28 : decode cX8_act 28 = .ok (.aload_n 0, 1) := by decide +kernel
theorem dX8_act_29 : decode cX8_act 29 = .ok (.ldc2_w 98, 3) := by decide +kernel
theorem dX8_act_32 : decode cX8_act 32 = .ok (.invokevirtual 100, 3) := by decide +kernel
theorem dX8_act_35 : decode cX8_act 35 = .ok (.lreturn, 1) := by decide +kernel
theorem dX8_act_36 : decode cX8_act 36 = .ok (.aload_n 0, 1) := by decide +kernel
theorem dX8_act_37 : decode cX8_act 37 = .ok (.invokevirtual 142, 3) := by decide +kernel
theorem dX8_act_40 : decode cX8_act 40 = .ok (.iload_n 2, 1) := by decide +kernel
theorem dX8_act_41 : decode cX8_act 41 = .ok (.tableswitch 70 0 3 #[31, 39, 47, 62], 31) := by decide +kernel
theorem dX8_act_72 : decode cX8_act 72 = .ok (.aload_n 0, 1) := by decide +kernel
theorem dX8_act_73 : decode cX8_act 73 = .ok (.getfield 13, 3) := by decide +kernel
theorem dX8_act_76 : decode cX8_act 76 = .ok (.iload_n 1, 1) := by decide +kernel
theorem dX8_act_77 : decode cX8_act 77 = .ok (.iaload, 1) := by decide +kernel
theorem dX8_act_78 : decode cX8_act 78 = .ok (.i2l, 1) := by decide +kernel
theorem dX8_act_79 : decode cX8_act 79 = .ok (.lreturn, 1) := by decide +kernel
theorem dX8_act_80 : decode cX8_act 80 = .ok (.aload_n 0, 1) := by decide +kernel
theorem dX8_act_81 : decode cX8_act 81 = .ok (.getfield 16, 3) := by decide +kernel
theorem dX8_act_84 : decode cX8_act 84 = .ok (.iload_n 1, 1) := by decide +kernel
theorem dX8_act_85 : decode cX8_act 85 = .ok (.iaload, 1) := by decide +kernel
theorem dX8_act_86 : decode cX8_act 86 = .ok (.i2l, 1) := by decide +kernel
theorem dX8_act_87 : decode cX8_act 87 = .ok (.lreturn, 1) := by decide +kernel
theorem dX8_act_88 : decode cX8_act 88 = .ok (.aload_n 0, 1) := by decide +kernel
theorem dX8_act_89 : decode cX8_act 89 = .ok (.getfield 72, 3) := by decide +kernel
theorem dX8_act_92 : decode cX8_act 92 = .ok (.iload_n 1, 1) := by decide +kernel
theorem dX8_act_93 : decode cX8_act 93 = .ok (.baload, 1) := by decide +kernel
theorem dX8_act_94 : decode cX8_act 94 = .ok (.ifCond .eq 7, 3) := by decide +kernel
theorem dX8_act_97 : decode cX8_act 97 = .ok (.lconst 1, 1) := by decide +kernel
theorem dX8_act_98 : decode cX8_act 98 = .ok (.goto 4, 3) := by decide +kernel
theorem dX8_act_101 : decode cX8_act 101 = .ok (.lconst 0, 1) := by decide +kernel
theorem dX8_act_102 : decode cX8_act 102 = .ok (.lreturn, 1) := by decide +kernel
theorem dX8_act_103 : decode cX8_act 103 = .ok (.aload_n 0, 1) := by decide +kernel
theorem dX8_act_104 : decode cX8_act 104 = .ok (.getfield 65, 3) := by decide +kernel
theorem dX8_act_107 : decode cX8_act 107 = .ok (.iload_n 1, 1) := by decide +kernel
theorem dX8_act_108 : decode cX8_act 108 = .ok (.iaload, 1) := by decide +kernel
theorem dX8_act_109 : decode cX8_act 109 = .ok (.i2l, 1) := by decide +kernel
theorem dX8_act_110 : decode cX8_act 110 = .ok (.lreturn, 1) := by decide +kernel
theorem dX8_act_111 : decode cX8_act 111 = .ok (.aload_n 0, 1) := by decide +kernel
theorem dX8_act_112 : decode cX8_act 112 = .ok (.getfield 56, 3) := by decide +kernel
theorem dX8_act_115 : decode cX8_act 115 = .ok (.iload_n 1, 1) := by decide +kernel
theorem dX8_act_116 : decode cX8_act 116 = .ok (.iaload, 1) := by decide +kernel
theorem dX8_act_117 : decode cX8_act 117 = .ok (.i2l, 1) := by decide +kernel
theorem dX8_act_118 : decode cX8_act 118 = .ok (.lreturn, 1) := by decide +kernel
theorem dX8_untell_0 : decode cX8_untell 0 = .ok (.aload_n 0, 1) := by decide +kernel
theorem dX8_untell_1 : decode cX8_untell 1 = .ok (.getfield 112, 3) := by decide +kernel
theorem dX8_untell_4 : decode cX8_untell 4 = .ok (.ifCond .ne 11, 3) := by decide +kernel
theorem dX8_untell_7 : decode cX8_untell 7 = .ok (.aload_n 0, 1) := by decide +kernel
theorem dX8_untell_8 : decode cX8_untell 8 = .ok (.ldc2_w 145, 3) := by decide +kernel
theorem dX8_untell_11 : decode cX8_untell 11 = .ok (.invokevirtual 100, 3) := by decide +kernel
theorem dX8_untell_14 : decode cX8_untell 14 = .ok (.lreturn, 1) := by decide +kernel
theorem dX8_untell_15 : decode cX8_untell 15 = .ok (.aload_n 0, 1) := by decide +kernel
theorem dX8_untell_16 : decode cX8_untell 16 = .ok (.dup, 1) := by decide +kernel
theorem dX8_untell_17 : decode cX8_untell 17 = .ok (.getfield 112, 3) := by decide +kernel
theorem dX8_untell_20 : decode cX8_untell 20 = .ok (.iconst 1, 1) := by decide +kernel
theorem dX8_untell_21 : decode cX8_untell 21 = .ok (.isub, 1) := by decide +kernel
theorem dX8_untell_22 : decode cX8_untell 22 = .ok (.putfield 112, 3) := by decide +kernel
theorem dX8_untell_25 : decode cX8_untell 25 = .ok (.aload_n 0, 1) := by decide +kernel
theorem dX8_untell_26 : decode cX8_untell 26 = .ok (.getfield 112, 3) := by decide +kernel
theorem dX8_untell_29 : decode cX8_untell 29 = .ok (.i2l, 1) := by decide +kernel
theorem dX8_untell_30 : decode cX8_untell 30 = .ok (.lreturn, 1) := by decide +kernel
theorem dX8_who_0 : decode cX8_who 0 = .ok (.iload_n 1, 1) := by decide +kernel
theorem dX8_who_1 : decode cX8_who 1 = .ok (.invokestatic 147, 3) := by decide +kernel
theorem dX8_who_4 : decode cX8_who 4 = .ok (.ifCond .eq 10, 3) := by decide +kernel
theorem dX8_who_7 : decode cX8_who 7 = .ok (.iload_n 2, 1) := by decide +kernel
theorem dX8_who_8 : decode cX8_who 8 = .ok (.invokestatic 115, 3) := by decide +kernel
theorem dX8_who_11 : decode cX8_who 11 = .ok (.ifCond .ne 11, 3) := by decide +kernel
theorem dX8_who_14 : decode cX8_who 14 = .ok (.aload_n 0, 1) := by decide +kernel
theorem dX8_who_15 : decode cX8_who 15 = .ok (.ldc2_w 98, 3) := by decide +kernel
theorem dX8_who_18 : decode cX8_who 18 = .ok (.invokevirtual 100, 3) := by decide +kernel
theorem dX8_who_21 : decode cX8_who 21 = .ok (.lreturn, 1) := by decide +kernel
theorem dX8_who_22 : decode cX8_who 22 = .ok (.aload_n 0, 1) := by decide +kernel
theorem dX8_who_23 : decode cX8_who 23 = .ok (.invokevirtual 142, 3) := by decide +kernel
theorem dX8_who_26 : decode cX8_who 26 = .ok (.aload_n 0, 1) := by decide +kernel
theorem dX8_who_27 : decode cX8_who 27 = .ok (.getfield 59, 3) := by decide +kernel
theorem dX8_who_30 : decode cX8_who 30 = .ok (.bipush 36, 2) := by decide +kernel
theorem dX8_who_32 : decode cX8_who 32 = .ok (.aload_n 0, 1) := by decide +kernel
theorem dX8_who_33 : decode cX8_who 33 = .ok (.iload_n 2, 1) := by decide +kernel
theorem dX8_who_34 : decode cX8_who 34 = .ok (.invokevirtual 150, 3) := by decide +kernel
theorem dX8_who_37 : decode cX8_who 37 = .ok (.imul, 1) := by decide +kernel
theorem dX8_who_38 : decode cX8_who 38 = .ok (.iload_n 1, 1) := by decide +kernel
theorem dX8_who_39 : decode cX8_who 39 = .ok (.iadd, 1) := by decide +kernel
theorem dX8_who_40 : decode cX8_who 40 = .ok (.iaload, 1) := by decide +kernel
theorem dX8_who_41 : decode cX8_who 41 = .ok (.i2l, 1) := by decide +kernel
theorem dX8_who_42 : decode cX8_who 42 = .ok (.lreturn, 1) := by decide +kernel
theorem dX8_there_0 : decode cX8_there 0 = .ok (.aload_n 0, 1) := by decide +kernel
theorem dX8_there_1 : decode cX8_there 1 = .ok (.iload_n 1, 1) := by decide +kernel
theorem dX8_there_2 : decode cX8_there 2 = .ok (.invokevirtual 106, 3) := by decide +kernel
theorem dX8_there_5 : decode cX8_there 5 = .ok (.ifCond .eq 10, 3) := by decide +kernel
theorem dX8_there_8 : decode cX8_there 8 = .ok (.iload_n 2, 1) := by decide +kernel
theorem dX8_there_9 : decode cX8_there 9 = .ok (.invokestatic 115, 3) := by decide +kernel
theorem dX8_there_12 : decode cX8_there 12 = .ok (.ifCond .ne 11, 3) := by decide +kernel
theorem dX8_there_15 : decode cX8_there 15 = .ok (.aload_n 0, 1) := by decide +kernel
theorem dX8_there_16 : decode cX8_there 16 = .ok (.ldc2_w 98, 3) := by decide +kernel
theorem dX8_there_19 : decode cX8_there 19 = .ok (.invokevirtual 100, 3) := by decide +kernel
theorem dX8_there_22 : decode cX8_there 22 = .ok (.lreturn, 1) := by decide +kernel
theorem dX8_there_23 : decode cX8_there 23 = .ok (.aload_n 0, 1) := by decide +kernel
theorem dX8_there_24 : decode cX8_there 24 = .ok (.invokevirtual 142, 3) := by decide +kernel
theorem dX8_there_27 : decode cX8_there 27 = .ok (.aload_n 0, 1) := by decide +kernel
theorem dX8_there_28 : decode cX8_there 28 = .ok (.iload_n 1, 1) := by decide +kernel
theorem dX8_there_29 : decode cX8_there 29 = .ok (.invokevirtual 118, 3) := by decide +kernel
theorem dX8_there_32 : decode cX8_there 32 = .ok (.ifCond .ne 21, 3) := by decide +kernel
theorem dX8_there_35 : decode cX8_there 35 = .ok (.aload_n 0, 1) := by decide +kernel
theorem dX8_there_36 : decode cX8_there 36 = .ok (.getfield 68, 3) := by decide +kernel
theorem dX8_there_39 : decode cX8_there 39 = .ok (.bipush 10, 2) := by decide +kernel
theorem dX8_there_41 : decode cX8_there 41 = .ok (.aload_n 0, 1) := by decide +kernel
theorem dX8_there_42 : decode cX8_there 42 = .ok (.iload_n 2, 1) := by decide +kernel
theorem dX8_there_43 : decode cX8_there 43 = .ok (.invokevirtual 150, 3) := by decide +kernel
theorem dX8_there_46 : decode cX8_there 46 = .ok (.imul, 1) := by decide +kernel
theorem dX8_there_47 : decode cX8_there 47 = .ok (.iload_n 1, 1) := by decide +kernel
theorem dX8_there_48 : decode cX8_there 48 = .ok (.iadd, 1) := by decide +kernel
theorem dX8_there_49 : decode cX8_there 49 = .ok (.baload, 1) := by decide +kernel
theorem dX8_there_50 : decode cX8_there 50 = .ok (.ifCond .eq 7, 3) := by decide +kernel
theorem dX8_there_53 : decode cX8_there 53 = .ok (.lconst 1, 1) := by decide +kernel
theorem dX8_there_54 : decode cX8_there 54 = .ok (.goto 4, 3) := by decide +kernel
theorem dX8_there_57 : decode cX8_there 57 = .ok (.lconst 0, 1) := by decide +kernel
theorem dX8_there_58 : decode cX8_there 58 = .ok (.lreturn, 1) := by decide +kernel
theorem dX8_cells_0 : decode cX8_cells 0 = .ok (.aload_n 0, 1) := by decide +kernel
theorem dX8_cells_1 : decode cX8_cells 1 = .ok (.iload_n 1, 1) := by decide +kernel
theorem dX8_cells_2 : decode cX8_cells 2 = .ok (.invokevirtual 106, 3) := by decide +kernel
theorem dX8_cells_5 : decode cX8_cells 5 = .ok (.ifCond .eq 10, 3) := by decide +kernel
theorem dX8_cells_8 : decode cX8_cells 8 = .ok (.iload_n 2, 1) := by decide +kernel
theorem dX8_cells_9 : decode cX8_cells 9 = .ok (.invokestatic 115, 3) := by decide +kernel
theorem dX8_cells_12 : decode cX8_cells 12 = .ok (.ifCond .ne 11, 3) := by decide +kernel
theorem dX8_cells_15 : decode cX8_cells 15 = .ok (.aload_n 0, 1) := by decide +kernel
theorem dX8_cells_16 : decode cX8_cells 16 = .ok (.ldc2_w 98, 3) := by decide +kernel
theorem dX8_cells_19 : decode cX8_cells 19 = .ok (.invokevirtual 100, 3) := by decide +kernel
theorem dX8_cells_22 : decode cX8_cells 22 = .ok (.lreturn, 1) := by decide +kernel
theorem dX8_cells_23 : decode cX8_cells 23 = .ok (.aload_n 0, 1) := by decide +kernel
theorem dX8_cells_24 : decode cX8_cells 24 = .ok (.invokevirtual 142, 3) := by decide +kernel
theorem dX8_cells_27 : decode cX8_cells 27 = .ok (.aload_n 0, 1) := by decide +kernel
theorem dX8_cells_28 : decode cX8_cells 28 = .ok (.iload_n 1, 1) := by decide +kernel
theorem dX8_cells_29 : decode cX8_cells 29 = .ok (.aload_n 0, 1) := by decide +kernel
theorem dX8_cells_30 : decode cX8_cells 30 = .ok (.iload_n 2, 1) := by decide +kernel
theorem dX8_cells_31 : decode cX8_cells 31 = .ok (.invokevirtual 150, 3) := by decide +kernel
theorem dX8_cells_34 : decode cX8_cells 34 = .ok (.invokevirtual 154, 3) := by decide +kernel
theorem dX8_cells_37 : decode cX8_cells 37 = .ok (.lreturn, 1) := by decide +kernel
theorem dX8_cellsIn_0 : decode cX8_cellsIn 0 = .ok (.iconst 0, 1) := by decide +kernel
theorem dX8_cellsIn_1 : decode cX8_cellsIn 1 = .ok (.istore_n 2, 1) := by decide +kernel
theorem dX8_cellsIn_2 : decode cX8_cellsIn 2 = .ok (.iconst 0, 1) := by decide +kernel
theorem dX8_cellsIn_3 : decode cX8_cellsIn 3 = .ok (.istore_n 3, 1) := by decide +kernel
theorem dX8_cellsIn_4 : decode cX8_cellsIn 4 = .ok (.iload_n 3, 1) := by decide +kernel
theorem dX8_cellsIn_5 : decode cX8_cellsIn 5 = .ok (.bipush 36, 2) := by decide +kernel
theorem dX8_cellsIn_7 : decode cX8_cellsIn 7 = .ok (.if_icmp .ge 18, 3) := by decide +kernel
theorem dX8_cellsIn_10 : decode cX8_cellsIn 10 = .ok (.iload_n 2, 1) := by decide +kernel
theorem dX8_cellsIn_11 : decode cX8_cellsIn 11 = .ok (.lload_n 0, 1) := by decide +kernel
theorem dX8_cellsIn_12 : decode cX8_cellsIn 12 = .ok (.iload_n 3, 1) := by decide +kernel
theorem dX8_cellsIn_13 : decode cX8_cellsIn 13 = .ok (.lshr, 1) := by decide +kernel
theorem dX8_cellsIn_14 : decode cX8_cellsIn 14 = .ok (.lconst 1, 1) := by decide +kernel
theorem dX8_cellsIn_15 : decode cX8_cellsIn 15 = .ok (.land, 1) := by decide +kernel
theorem dX8_cellsIn_16 : decode cX8_cellsIn 16 = .ok (.l2i, 1) := by decide +kernel
theorem dX8_cellsIn_17 : decode cX8_cellsIn 17 = .ok (.iadd, 1) := by decide +kernel
theorem dX8_cellsIn_18 : decode cX8_cellsIn 18 = .ok (.istore_n 2, 1) := by decide +kernel
theorem dX8_cellsIn_19 : decode cX8_cellsIn 19 = .ok (.iinc 3 1, 3) := by decide +kernel
theorem dX8_cellsIn_22 : decode cX8_cellsIn 22 = .ok (.goto (-18), 3) := by decide +kernel
theorem dX8_cellsIn_25 : decode cX8_cellsIn 25 = .ok (.iload_n 2, 1) := by decide +kernel
theorem dX8_cellsIn_26 : decode cX8_cellsIn 26 = .ok (.ireturn, 1) := by decide +kernel
theorem dX8_beside_0 : decode cX8_beside 0 = .ok (.iload_n 0, 1) := by decide +kernel
theorem dX8_beside_1 : decode cX8_beside 1 = .ok (.bipush 6, 2) := by decide +kernel
theorem dX8_beside_3 : decode cX8_beside 3 = .ok (.idiv, 1) := by decide +kernel
theorem dX8_beside_4 : decode cX8_beside 4 = .ok (.iload_n 1, 1) := by decide +kernel
theorem dX8_beside_5 : decode cX8_beside 5 = .ok (.ifCond .ne 7, 3) := by decide +kernel
theorem dX8_beside_8 : decode cX8_beside 8 = .ok (.iconst (-1), 1) := by decide +kernel
theorem dX8_beside_9 : decode cX8_beside 9 = .ok (.goto 13, 3) := by decide +kernel
theorem dX8_beside_12 : decode cX8_beside 12 = .ok (.iload_n 1, 1) := by decide +kernel
theorem dX8_beside_13 : decode cX8_beside 13 = .ok (.iconst 1, 1) := by decide +kernel
theorem dX8_beside_14 : decode cX8_beside 14 = .ok (.if_icmp .ne 7, 3) := by decide +kernel
theorem dX8_beside_17 : decode cX8_beside 17 = .ok (.iconst 1, 1) := by decide +kernel
theorem dX8_beside_18 : decode cX8_beside 18 = .ok (.goto 4, 3) := by decide +kernel
theorem dX8_beside_21 : decode cX8_beside 21 = .ok (.iconst 0, 1) := by decide +kernel
theorem dX8_beside_22 : decode cX8_beside 22 = .ok (.iadd, 1) := by decide +kernel
theorem dX8_beside_23 : decode cX8_beside 23 = .ok (.istore_n 2, 1) := by decide +kernel
theorem dX8_beside_24 : decode cX8_beside 24 = .ok (.iload_n 0, 1) := by decide +kernel
theorem dX8_beside_25 : decode cX8_beside 25 = .ok (.bipush 6, 2) := by decide +kernel
theorem dX8_beside_27 : decode cX8_beside 27 = .ok (.irem, 1) := by decide +kernel
theorem dX8_beside_28 : decode cX8_beside 28 = .ok (.iload_n 1, 1) := by decide +kernel
theorem dX8_beside_29 : decode cX8_beside 29 = .ok (.iconst 2, 1) := by decide +kernel
theorem dX8_beside_30 : decode cX8_beside 30 = .ok (.if_icmp .ne 7, 3) := by decide +kernel
theorem dX8_beside_33 : decode cX8_beside 33 = .ok (.iconst (-1), 1) := by decide +kernel
theorem dX8_beside_34 : decode cX8_beside 34 = .ok (.goto 13, 3) := by decide +kernel
theorem dX8_beside_37 : decode cX8_beside 37 = .ok (.iload_n 1, 1) := by decide +kernel
theorem dX8_beside_38 : decode cX8_beside 38 = .ok (.iconst 3, 1) := by decide +kernel
theorem dX8_beside_39 : decode cX8_beside 39 = .ok (.if_icmp .ne 7, 3) := by decide +kernel
theorem dX8_beside_42 : decode cX8_beside 42 = .ok (.iconst 1, 1) := by decide +kernel
theorem dX8_beside_43 : decode cX8_beside 43 = .ok (.goto 4, 3) := by decide +kernel
theorem dX8_beside_46 : decode cX8_beside 46 = .ok (.iconst 0, 1) := by decide +kernel
theorem dX8_beside_47 : decode cX8_beside 47 = .ok (.iadd, 1) := by decide +kernel
theorem dX8_beside_48 : decode cX8_beside 48 = .ok (.istore_n 3, 1) := by decide +kernel
theorem dX8_beside_49 : decode cX8_beside 49 = .ok (.iload_n 2, 1) := by decide +kernel
theorem dX8_beside_50 : decode cX8_beside 50 = .ok (.i2l, 1) := by decide +kernel
theorem dX8_beside_51 : decode cX8_beside 51 = .ok (.lconst 0, 1) := by decide +kernel
theorem dX8_beside_52 : decode cX8_beside 52 = .ok (.ldc2_w 158, 3) := by decide +kernel
theorem dX8_beside_55 : decode cX8_beside 55 = .ok (.invokestatic 86, 3) := by decide +kernel
theorem dX8_beside_58 : decode cX8_beside 58 = .ok (.ifCond .eq 24, 3) := by decide +kernel
theorem dX8_beside_61 : decode cX8_beside 61 = .ok (.iload_n 3, 1) := by decide +kernel
theorem dX8_beside_62 : decode cX8_beside 62 = .ok (.i2l, 1) := by decide +kernel
theorem dX8_beside_63 : decode cX8_beside 63 = .ok (.lconst 0, 1) := by decide +kernel
theorem dX8_beside_64 : decode cX8_beside 64 = .ok (.ldc2_w 158, 3) := by decide +kernel
theorem dX8_beside_67 : decode cX8_beside 67 = .ok (.invokestatic 86, 3) := by decide +kernel
theorem dX8_beside_70 : decode cX8_beside 70 = .ok (.ifCond .eq 12, 3) := by decide +kernel
theorem dX8_beside_73 : decode cX8_beside 73 = .ok (.bipush 6, 2) := by decide +kernel
theorem dX8_beside_75 : decode cX8_beside 75 = .ok (.iload_n 2, 1) := by decide +kernel
theorem dX8_beside_76 : decode cX8_beside 76 = .ok (.imul, 1) := by decide +kernel
theorem dX8_beside_77 : decode cX8_beside 77 = .ok (.iload_n 3, 1) := by decide +kernel
theorem dX8_beside_78 : decode cX8_beside 78 = .ok (.iadd, 1) := by decide +kernel
theorem dX8_beside_79 : decode cX8_beside 79 = .ok (.goto 4, 3) := by decide +kernel
theorem dX8_beside_82 : decode cX8_beside 82 = .ok (.iconst (-1), 1) := by decide +kernel
theorem dX8_beside_83 : decode cX8_beside 83 = .ok (.ireturn, 1) := by decide +kernel
theorem dX8_has_0 : decode cX8_has 0 = .ok (.iload_n 2, 1) := by decide +kernel
theorem dX8_has_1 : decode cX8_has 1 = .ok (.ifCond .lt 17, 3) := by decide +kernel
theorem dX8_has_4 : decode cX8_has 4 = .ok (.lload_n 0, 1) := by decide +kernel
theorem dX8_has_5 : decode cX8_has 5 = .ok (.iload_n 2, 1) := by decide +kernel
theorem dX8_has_6 : decode cX8_has 6 = .ok (.lshr, 1) := by decide +kernel
theorem dX8_has_7 : decode cX8_has 7 = .ok (.lconst 1, 1) := by decide +kernel
theorem dX8_has_8 : decode cX8_has 8 = .ok (.land, 1) := by decide +kernel
theorem dX8_has_9 : decode cX8_has 9 = .ok (.lconst 1, 1) := by decide +kernel
theorem dX8_has_10 : decode cX8_has 10 = .ok (.lcmp, 1) := by decide +kernel
theorem dX8_has_11 : decode cX8_has 11 = .ok (.ifCond .ne 7, 3) := by decide +kernel
theorem dX8_has_14 : decode cX8_has 14 = .ok (.iconst 1, 1) := by decide +kernel
theorem dX8_has_15 : decode cX8_has 15 = .ok (.goto 4, 3) := by decide +kernel
theorem dX8_has_18 : decode cX8_has 18 = .ok (.iconst 0, 1) := by decide +kernel
theorem dX8_has_19 : decode cX8_has 19 = .ok (.ireturn, 1) := by decide +kernel
theorem dX8_pieces_0 : decode cX8_pieces 0 = .ok (.lload_n 0, 1) := by decide +kernel
theorem dX8_pieces_1 : decode cX8_pieces 1 = .ok (.lstore_n 2, 1) := by decide +kernel
theorem dX8_pieces_2 : decode cX8_pieces 2 = .ok (.iconst 0, 1) := by decide +kernel
theorem dX8_pieces_3 : decode cX8_pieces 3 = .ok (.istore 4, 2) := by decide +kernel
theorem dX8_pieces_5 : decode cX8_pieces 5 = .ok (.lload_n 2, 1) := by decide +kernel
theorem dX8_pieces_6 : decode cX8_pieces 6 = .ok (.lconst 0, 1) := by decide +kernel
theorem dX8_pieces_7 : decode cX8_pieces 7 = .ok (.lcmp, 1) := by decide +kernel
theorem dX8_pieces_8 : decode cX8_pieces 8 = .ok (.ifCond .eq 143, 3) := by decide +kernel
theorem dX8_pieces_11 : decode cX8_pieces 11 = .ok (.iconst 0, 1) := by decide +kernel
theorem dX8_pieces_12 : decode cX8_pieces 12 = .ok (.istore 5, 2) := by decide +kernel
theorem dX8_pieces_14 : decode cX8_pieces 14 = .ok (.lload_n 2, 1) := by decide +kernel
theorem dX8_pieces_15 : decode cX8_pieces 15 = .ok (.iload 5, 2) := by decide +kernel
theorem dX8_pieces_17 : decode cX8_pieces 17 = .ok (.invokestatic 160, 3) := by decide +kernel
theorem dX8_pieces_20 : decode cX8_pieces 20 = .ok (.ifCond .ne 9, 3) := by decide +kernel
theorem dX8_pieces_23 : decode cX8_pieces 23 = .ok (.iinc 5 1, 3) := by decide +kernel
theorem dX8_pieces_26 : decode cX8_pieces 26 = .ok (.goto (-12), 3) := by decide +kernel
theorem dX8_pieces_29 : decode cX8_pieces 29 = .ok (.lconst 1, 1) := by decide +kernel
theorem dX8_pieces_30 : decode cX8_pieces 30 = .ok (.iload 5, 2) := by decide +kernel
theorem dX8_pieces_32 : decode cX8_pieces 32 = .ok (.lshl, 1) := by decide +kernel
theorem dX8_pieces_33 : decode cX8_pieces 33 = .ok (.lstore 6, 2) := by decide +kernel
theorem dX8_pieces_35 : decode cX8_pieces 35 = .ok (.iconst 1, 1) := by decide +kernel
theorem dX8_pieces_36 : decode cX8_pieces 36 = .ok (.istore 8, 2) := by decide +kernel
theorem dX8_pieces_38 : decode cX8_pieces 38 = .ok (.iload 8, 2) := by decide +kernel
theorem dX8_pieces_40 : decode cX8_pieces 40 = .ok (.ifCond .eq 96, 3) := by decide +kernel
theorem dX8_pieces_43 : decode cX8_pieces 43 = .ok (.iconst 0, 1) := by decide +kernel
theorem dX8_pieces_44 : decode cX8_pieces 44 = .ok (.istore 8, 2) := by decide +kernel
theorem dX8_pieces_46 : decode cX8_pieces 46 = .ok (.iconst 0, 1) := by decide +kernel
theorem dX8_pieces_47 : decode cX8_pieces 47 = .ok (.istore 9, 2) := by decide +kernel
theorem dX8_pieces_49 : decode cX8_pieces 49 = .ok (.iload 9, 2) := by decide +kernel
theorem dX8_pieces_51 : decode cX8_pieces 51 = .ok (.bipush 36, 2) := by decide +kernel
theorem dX8_pieces_53 : decode cX8_pieces 53 = .ok (.if_icmp .ge 80, 3) := by decide +kernel
theorem dX8_pieces_56 : decode cX8_pieces 56 = .ok (.lload 6, 2) := by decide +kernel
theorem dX8_pieces_58 : decode cX8_pieces 58 = .ok (.iload 9, 2) := by decide +kernel
theorem dX8_pieces_60 : decode cX8_pieces 60 = .ok (.invokestatic 160, 3) := by decide +kernel
theorem dX8_pieces_63 : decode cX8_pieces 63 = .ok (.ifCond .ne 6, 3) := by decide +kernel
theorem dX8_pieces_66 : decode cX8_pieces 66 = .ok (.goto 61, 3) := by decide +kernel
theorem dX8_pieces_69 : decode cX8_pieces 69 = .ok (.iconst 0, 1) := by decide +kernel
theorem dX8_pieces_70 : decode cX8_pieces 70 = .ok (.istore 10, 2) := by decide +kernel
theorem dX8_pieces_72 : decode cX8_pieces 72 = .ok (.iload 10, 2) := by decide +kernel
theorem dX8_pieces_74 : decode cX8_pieces 74 = .ok (.iconst 4, 1) := by decide +kernel
theorem dX8_pieces_75 : decode cX8_pieces 75 = .ok (.if_icmp .ge 52, 3) := by decide +kernel
theorem dX8_pieces_78 : decode cX8_pieces 78 = .ok (.iload 9, 2) := by decide +kernel
theorem dX8_pieces_80 : decode cX8_pieces 80 = .ok (.iload 10, 2) := by decide +kernel
theorem dX8_pieces_82 : decode cX8_pieces 82 = .ok (.invokestatic 164, 3) := by decide +kernel
theorem dX8_pieces_85 : decode cX8_pieces 85 = .ok (.istore 11, 2) := by decide +kernel
theorem dX8_pieces_87 : decode cX8_pieces 87 = .ok (.lload_n 0, 1) := by decide +kernel
theorem dX8_pieces_88 : decode cX8_pieces 88 = .ok (.iload 11, 2) := by decide +kernel
theorem dX8_pieces_90 : decode cX8_pieces 90 = .ok (.invokestatic 160, 3) := by decide +kernel
theorem dX8_pieces_93 : decode cX8_pieces 93 = .ok (.ifCond .eq 28, 3) := by decide +kernel
theorem dX8_pieces_96 : decode cX8_pieces 96 = .ok (.lload 6, 2) := by decide +kernel
theorem dX8_pieces_98 : decode cX8_pieces 98 = .ok (.iload 11, 2) := by decide +kernel
theorem dX8_pieces_100 : decode cX8_pieces 100 = .ok (.invokestatic 160, 3) := by decide +kernel
theorem dX8_pieces_103 : decode cX8_pieces 103 = .ok (.ifCond .eq 6, 3) := by decide +kernel
theorem dX8_pieces_106 : decode cX8_pieces 106 = .ok (.goto 15, 3) := by decide +kernel
theorem dX8_pieces_109 : decode cX8_pieces 109 = .ok (.lload 6, 2) := by decide +kernel
theorem dX8_pieces_111 : decode cX8_pieces 111 = .ok (.lconst 1, 1) := by decide +kernel
theorem dX8_pieces_112 : decode cX8_pieces 112 = .ok (.iload 11, 2) := by decide +kernel
theorem dX8_pieces_114 : decode cX8_pieces 114 = .ok (.lshl, 1) := by decide +kernel
theorem dX8_pieces_115 : decode cX8_pieces 115 = .ok (.lor, 1) := by decide +kernel
theorem dX8_pieces_116 : decode cX8_pieces 116 = .ok (.lstore 6, 2) := by decide +kernel
theorem dX8_pieces_118 : decode cX8_pieces 118 = .ok (.iconst 1, 1) := by decide +kernel
theorem dX8_pieces_119 : decode cX8_pieces 119 = .ok (.istore 8, 2) := by decide +kernel
theorem dX8_pieces_121 : decode cX8_pieces 121 = .ok (.iinc 10 1, 3) := by decide +kernel
theorem dX8_pieces_124 : decode cX8_pieces 124 = .ok (.goto (-52), 3) := by decide +kernel
theorem dX8_pieces_127 : decode cX8_pieces 127 = .ok (.iinc 9 1, 3) := by decide +kernel
theorem dX8_pieces_130 : decode cX8_pieces 130 = .ok (.goto (-81), 3) := by decide +kernel
theorem dX8_pieces_133 : decode cX8_pieces 133 = .ok (.goto (-95), 3) := by decide +kernel
theorem dX8_pieces_136 : decode cX8_pieces 136 = .ok (.lload_n 2, 1) := by decide +kernel
theorem dX8_pieces_137 : decode cX8_pieces 137 = .ok (.lload 6, 2) := by decide +kernel
theorem dX8_pieces_139 : decode cX8_pieces 139 = .ok (.ldc2_w 135, 3) := by decide +kernel
theorem dX8_pieces_142 : decode cX8_pieces 142 = .ok (.lxor, 1) := by decide +kernel
theorem dX8_pieces_143 : decode cX8_pieces 143 = .ok (.land, 1) := by decide +kernel
theorem dX8_pieces_144 : decode cX8_pieces 144 = .ok (.lstore_n 2, 1) := by decide +kernel
theorem dX8_pieces_145 : decode cX8_pieces 145 = .ok (.iinc 4 1, 3) := by decide +kernel
theorem dX8_pieces_148 : decode cX8_pieces 148 = .ok (.goto (-143), 3) := by decide +kernel
theorem dX8_pieces_151 : decode cX8_pieces 151 = .ok (.iload 4, 2) := by decide +kernel
theorem dX8_pieces_153 : decode cX8_pieces 153 = .ok (.ireturn, 1) := by decide +kernel
theorem dX8_sides_0 : decode cX8_sides 0 = .ok (.iconst 0, 1) := by decide +kernel
theorem dX8_sides_1 : decode cX8_sides 1 = .ok (.istore_n 2, 1) := by decide +kernel
theorem dX8_sides_2 : decode cX8_sides 2 = .ok (.iconst 0, 1) := by decide +kernel
theorem dX8_sides_3 : decode cX8_sides 3 = .ok (.istore_n 3, 1) := by decide +kernel
theorem dX8_sides_4 : decode cX8_sides 4 = .ok (.iload_n 3, 1) := by decide +kernel
theorem dX8_sides_5 : decode cX8_sides 5 = .ok (.bipush 36, 2) := by decide +kernel
theorem dX8_sides_7 : decode cX8_sides 7 = .ok (.if_icmp .ge 53, 3) := by decide +kernel
theorem dX8_sides_10 : decode cX8_sides 10 = .ok (.iconst 0, 1) := by decide +kernel
theorem dX8_sides_11 : decode cX8_sides 11 = .ok (.istore 4, 2) := by decide +kernel
theorem dX8_sides_13 : decode cX8_sides 13 = .ok (.iload 4, 2) := by decide +kernel
theorem dX8_sides_15 : decode cX8_sides 15 = .ok (.iconst 4, 1) := by decide +kernel
theorem dX8_sides_16 : decode cX8_sides 16 = .ok (.if_icmp .ge 38, 3) := by decide +kernel
theorem dX8_sides_19 : decode cX8_sides 19 = .ok (.lload_n 0, 1) := by decide +kernel
theorem dX8_sides_20 : decode cX8_sides 20 = .ok (.iload_n 3, 1) := by decide +kernel
theorem dX8_sides_21 : decode cX8_sides 21 = .ok (.invokestatic 160, 3) := by decide +kernel
theorem dX8_sides_24 : decode cX8_sides 24 = .ok (.ifCond .eq 30, 3) := by decide +kernel
theorem dX8_sides_27 : decode cX8_sides 27 = .ok (.iload_n 2, 1) := by decide +kernel
theorem dX8_sides_28 : decode cX8_sides 28 = .ok (.lload_n 0, 1) := by decide +kernel
theorem dX8_sides_29 : decode cX8_sides 29 = .ok (.iload_n 3, 1) := by decide +kernel
theorem dX8_sides_30 : decode cX8_sides 30 = .ok (.iload 4, 2) := by decide +kernel
theorem dX8_sides_32 : decode cX8_sides 32 = .ok (.invokestatic 164, 3) := by decide +kernel
theorem dX8_sides_35 : decode cX8_sides 35 = .ok (.invokestatic 160, 3) := by decide +kernel
theorem dX8_sides_38 : decode cX8_sides 38 = .ok (.ifCond .eq 7, 3) := by decide +kernel
theorem dX8_sides_41 : decode cX8_sides 41 = .ok (.iconst 0, 1) := by decide +kernel
theorem dX8_sides_42 : decode cX8_sides 42 = .ok (.goto 4, 3) := by decide +kernel
theorem dX8_sides_45 : decode cX8_sides 45 = .ok (.iconst 1, 1) := by decide +kernel
theorem dX8_sides_46 : decode cX8_sides 46 = .ok (.iadd, 1) := by decide +kernel
theorem dX8_sides_47 : decode cX8_sides 47 = .ok (.istore_n 2, 1) := by decide +kernel
theorem dX8_sides_48 : decode cX8_sides 48 = .ok (.iinc 4 1, 3) := by decide +kernel
theorem dX8_sides_51 : decode cX8_sides 51 = .ok (.goto (-38), 3) := by decide +kernel
theorem dX8_sides_54 : decode cX8_sides 54 = .ok (.iinc 3 1, 3) := by decide +kernel
theorem dX8_sides_57 : decode cX8_sides 57 = .ok (.goto (-53), 3) := by decide +kernel
theorem dX8_sides_60 : decode cX8_sides 60 = .ok (.iload_n 2, 1) := by decide +kernel
theorem dX8_sides_61 : decode cX8_sides 61 = .ok (.ireturn, 1) := by decide +kernel
theorem dX8_shape_0 : decode cX8_shape 0 = .ok (.aload_n 0, 1) := by decide +kernel
theorem dX8_shape_1 : decode cX8_shape 1 = .ok (.iload_n 1, 1) := by decide +kernel
theorem dX8_shape_2 : decode cX8_shape 2 = .ok (.invokevirtual 106, 3) := by decide +kernel
theorem dX8_shape_5 : decode cX8_shape 5 = .ok (.ifCond .eq 22, 3) := by decide +kernel
theorem dX8_shape_8 : decode cX8_shape 8 = .ok (.iload_n 2, 1) := by decide +kernel
theorem dX8_shape_9 : decode cX8_shape 9 = .ok (.invokestatic 115, 3) := by decide +kernel
theorem dX8_shape_12 : decode cX8_shape 12 = .ok (.ifCond .eq 15, 3) := by decide +kernel
theorem dX8_shape_15 : decode cX8_shape 15 = .ok (.iload_n 3, 1) := by decide +kernel
theorem dX8_shape_16 : decode cX8_shape 16 = .ok (.i2l, 1) := by decide +kernel
theorem dX8_shape_17 : decode cX8_shape 17 = .ok (.lconst 0, 1) := by decide +kernel
theorem dX8_shape_18 : decode cX8_shape 18 = .ok (.ldc2_w 168, 3) := by decide +kernel
theorem dX8_shape_21 : decode cX8_shape 21 = .ok (.invokestatic 86, 3) := by decide +kernel
theorem dX8_shape_24 : decode cX8_shape 24 = .ok (.ifCond .ne 11, 3) := by decide +kernel
theorem dX8_shape_27 : decode cX8_shape 27 = .ok (.aload_n 0, 1) := by decide +kernel
theorem dX8_shape_28 : decode cX8_shape 28 = .ok (.ldc2_w 98, 3) := by decide +kernel
theorem dX8_shape_31 : decode cX8_shape 31 = .ok (.invokevirtual 100, 3) := by decide +kernel
theorem dX8_shape_34 : decode cX8_shape 34 = .ok (.lreturn, 1) := by decide +kernel
theorem dX8_shape_35 : decode cX8_shape 35 = .ok (.aload_n 0, 1) := by decide +kernel
theorem dX8_shape_36 : decode cX8_shape 36 = .ok (.invokevirtual 142, 3) := by decide +kernel
theorem dX8_shape_39 : decode cX8_shape 39 = .ok (.aload_n 0, 1) := by decide +kernel
theorem dX8_shape_40 : decode cX8_shape 40 = .ok (.iload_n 1, 1) := by decide +kernel
theorem dX8_shape_41 : decode cX8_shape 41 = .ok (.aload_n 0, 1) := by decide +kernel
theorem dX8_shape_42 : decode cX8_shape 42 = .ok (.iload_n 2, 1) := by decide +kernel
theorem dX8_shape_43 : decode cX8_shape 43 = .ok (.invokevirtual 150, 3) := by decide +kernel
theorem dX8_shape_46 : decode cX8_shape 46 = .ok (.invokevirtual 154, 3) := by decide +kernel
theorem dX8_shape_49 : decode cX8_shape 49 = .ok (.lstore 4, 2) := by decide +kernel
theorem dX8_shape_51 : decode cX8_shape 51 = .ok (.iload_n 3, 1) := by decide +kernel
theorem dX8_shape_52 : decode cX8_shape 52 = .ok (.ifCond .ne 12, 3) := by decide +kernel
theorem dX8_shape_55 : decode cX8_shape 55 = .ok (.lload 4, 2) := by decide +kernel
theorem dX8_shape_57 : decode cX8_shape 57 = .ok (.invokestatic 170, 3) := by decide +kernel
theorem dX8_shape_60 : decode cX8_shape 60 = .ok (.i2l, 1) := by decide +kernel
theorem dX8_shape_61 : decode cX8_shape 61 = .ok (.goto 23, 3) := by decide +kernel
theorem dX8_shape_64 : decode cX8_shape 64 = .ok (.iload_n 3, 1) := by decide +kernel
theorem dX8_shape_65 : decode cX8_shape 65 = .ok (.iconst 1, 1) := by decide +kernel
theorem dX8_shape_66 : decode cX8_shape 66 = .ok (.if_icmp .ne 12, 3) := by decide +kernel
theorem dX8_shape_69 : decode cX8_shape 69 = .ok (.lload 4, 2) := by decide +kernel
theorem dX8_shape_71 : decode cX8_shape 71 = .ok (.invokestatic 174, 3) := by decide +kernel
theorem dX8_shape_74 : decode cX8_shape 74 = .ok (.i2l, 1) := by decide +kernel
theorem dX8_shape_75 : decode cX8_shape 75 = .ok (.goto 9, 3) := by decide +kernel
theorem dX8_shape_78 : decode cX8_shape 78 = .ok (.lload 4, 2) := by decide +kernel
theorem dX8_shape_80 : decode cX8_shape 80 = .ok (.invokestatic 177, 3) := by decide +kernel
theorem dX8_shape_83 : decode cX8_shape 83 = .ok (.i2l, 1) := by decide +kernel
theorem dX8_shape_84 : decode cX8_shape 84 = .ok (.lreturn, 1) := by decide +kernel
theorem dX8_under_0 : decode cX8_under 0 = .ok (.aload_n 0, 1) := by decide +kernel
theorem dX8_under_1 : decode cX8_under 1 = .ok (.iload_n 1, 1) := by decide +kernel
theorem dX8_under_2 : decode cX8_under 2 = .ok (.invokevirtual 106, 3) := by decide +kernel
theorem dX8_under_5 : decode cX8_under 5 = .ok (.ifCond .eq 10, 3) := by decide +kernel
theorem dX8_under_8 : decode cX8_under 8 = .ok (.iload_n 2, 1) := by decide +kernel
theorem dX8_under_9 : decode cX8_under 9 = .ok (.invokestatic 115, 3) := by decide +kernel
theorem dX8_under_12 : decode cX8_under 12 = .ok (.ifCond .ne 11, 3) := by decide +kernel
theorem dX8_under_15 : decode cX8_under 15 = .ok (.aload_n 0, 1) := by decide +kernel
theorem dX8_under_16 : decode cX8_under 16 = .ok (.ldc2_w 98, 3) := by decide +kernel
theorem dX8_under_19 : decode cX8_under 19 = .ok (.invokevirtual 100, 3) := by decide +kernel
theorem dX8_under_22 : decode cX8_under 22 = .ok (.lreturn, 1) := by decide +kernel
theorem dX8_under_23 : decode cX8_under 23 = .ok (.aload_n 0, 1) := by decide +kernel
theorem dX8_under_24 : decode cX8_under 24 = .ok (.iload_n 1, 1) := by decide +kernel
theorem dX8_under_25 : decode cX8_under 25 = .ok (.invokevirtual 118, 3) := by decide +kernel
theorem dX8_under_28 : decode cX8_under 28 = .ok (.ifCond .eq 11, 3) := by decide +kernel
theorem dX8_under_31 : decode cX8_under 31 = .ok (.aload_n 0, 1) := by decide +kernel
theorem dX8_under_32 : decode cX8_under 32 = .ok (.ldc2_w 110, 3) := by decide +kernel
theorem dX8_under_35 : decode cX8_under 35 = .ok (.invokevirtual 100, 3) := by decide +kernel
theorem dX8_under_38 : decode cX8_under 38 = .ok (.lreturn, 1) := by decide +kernel
theorem dX8_under_39 : decode cX8_under 39 = .ok (.aload_n 0, 1) := by decide +kernel
theorem dX8_under_40 : decode cX8_under 40 = .ok (.invokevirtual 142, 3) := by decide +kernel
theorem dX8_under_43 : decode cX8_under 43 = .ok (.aload_n 0, 1) := by decide +kernel
theorem dX8_under_44 : decode cX8_under 44 = .ok (.getfield 62, 3) := by decide +kernel
theorem dX8_under_47 : decode cX8_under 47 = .ok (.bipush 10, 2) := by decide +kernel
theorem dX8_under_49 : decode cX8_under 49 = .ok (.aload_n 0, 1) := by decide +kernel
theorem dX8_under_50 : decode cX8_under 50 = .ok (.iload_n 2, 1) := by decide +kernel
theorem dX8_under_51 : decode cX8_under 51 = .ok (.invokevirtual 150, 3) := by decide +kernel
theorem dX8_under_54 : decode cX8_under 54 = .ok (.imul, 1) := by decide +kernel
theorem dX8_under_55 : decode cX8_under 55 = .ok (.iload_n 1, 1) := by decide +kernel
theorem dX8_under_56 : decode cX8_under 56 = .ok (.iadd, 1) := by decide +kernel
theorem dX8_under_57 : decode cX8_under 57 = .ok (.iaload, 1) := by decide +kernel
theorem dX8_under_58 : decode cX8_under 58 = .ok (.istore_n 3, 1) := by decide +kernel
theorem dX8_under_59 : decode cX8_under 59 = .ok (.iload_n 3, 1) := by decide +kernel
theorem dX8_under_60 : decode cX8_under 60 = .ok (.ifCond .ge 13, 3) := by decide +kernel
theorem dX8_under_63 : decode cX8_under 63 = .ok (.aload_n 0, 1) := by decide +kernel
theorem dX8_under_64 : decode cX8_under 64 = .ok (.ldc2_w 145, 3) := by decide +kernel
theorem dX8_under_67 : decode cX8_under 67 = .ok (.invokevirtual 100, 3) := by decide +kernel
theorem dX8_under_70 : decode cX8_under 70 = .ok (.goto 5, 3) := by decide +kernel
theorem dX8_under_73 : decode cX8_under 73 = .ok (.iload_n 3, 1) := by decide +kernel
theorem dX8_under_74 : decode cX8_under 74 = .ok (.i2l, 1) := by decide +kernel
theorem dX8_under_75 : decode cX8_under 75 = .ok (.lreturn, 1) := by decide +kernel
theorem dX8_areUnlike_0 : decode cX8_areUnlike 0 = .ok (.aload_n 0, 1) := by decide +kernel
theorem dX8_areUnlike_1 : decode cX8_areUnlike 1 = .ok (.getfield 59, 3) := by decide +kernel
theorem dX8_areUnlike_4 : decode cX8_areUnlike 4 = .ok (.bipush 36, 2) := by decide +kernel
theorem dX8_areUnlike_6 : decode cX8_areUnlike 6 = .ok (.iload_n 1, 1) := by decide +kernel
theorem dX8_areUnlike_7 : decode cX8_areUnlike 7 = .ok (.imul, 1) := by decide +kernel
theorem dX8_areUnlike_8 : decode cX8_areUnlike 8 = .ok (.iload_n 2, 1) := by decide +kernel
theorem dX8_areUnlike_9 : decode cX8_areUnlike 9 = .ok (.iadd, 1) := by decide +kernel
theorem dX8_areUnlike_10 : decode cX8_areUnlike 10 = .ok (.iaload, 1) := by decide +kernel
theorem dX8_areUnlike_11 : decode cX8_areUnlike 11 = .ok (.aload_n 0, 1) := by decide +kernel
theorem dX8_areUnlike_12 : decode cX8_areUnlike 12 = .ok (.getfield 59, 3) := by decide +kernel
theorem dX8_areUnlike_15 : decode cX8_areUnlike 15 = .ok (.bipush 36, 2) := by decide +kernel
theorem dX8_areUnlike_17 : decode cX8_areUnlike 17 = .ok (.iload_n 1, 1) := by decide +kernel
theorem dX8_areUnlike_18 : decode cX8_areUnlike 18 = .ok (.imul, 1) := by decide +kernel
theorem dX8_areUnlike_19 : decode cX8_areUnlike 19 = .ok (.iload_n 3, 1) := by decide +kernel
theorem dX8_areUnlike_20 : decode cX8_areUnlike 20 = .ok (.iadd, 1) := by decide +kernel
theorem dX8_areUnlike_21 : decode cX8_areUnlike 21 = .ok (.iaload, 1) := by decide +kernel
theorem dX8_areUnlike_22 : decode cX8_areUnlike 22 = .ok (.if_icmp .eq 7, 3) := by decide +kernel
theorem dX8_areUnlike_25 : decode cX8_areUnlike 25 = .ok (.iconst 1, 1) := by decide +kernel
theorem dX8_areUnlike_26 : decode cX8_areUnlike 26 = .ok (.goto 4, 3) := by decide +kernel
theorem dX8_areUnlike_29 : decode cX8_areUnlike 29 = .ok (.iconst 0, 1) := by decide +kernel
theorem dX8_areUnlike_30 : decode cX8_areUnlike 30 = .ok (.ireturn, 1) := by decide +kernel
theorem dX8_areBeside_0 : decode cX8_areBeside 0 = .ok (.iconst 0, 1) := by decide +kernel
theorem dX8_areBeside_1 : decode cX8_areBeside 1 = .ok (.istore_n 2, 1) := by decide +kernel
theorem dX8_areBeside_2 : decode cX8_areBeside 2 = .ok (.iload_n 2, 1) := by decide +kernel
theorem dX8_areBeside_3 : decode cX8_areBeside 3 = .ok (.iconst 4, 1) := by decide +kernel
theorem dX8_areBeside_4 : decode cX8_areBeside 4 = .ok (.if_icmp .ge 20, 3) := by decide +kernel
theorem dX8_areBeside_7 : decode cX8_areBeside 7 = .ok (.iload_n 0, 1) := by decide +kernel
theorem dX8_areBeside_8 : decode cX8_areBeside 8 = .ok (.iload_n 2, 1) := by decide +kernel
theorem dX8_areBeside_9 : decode cX8_areBeside 9 = .ok (.invokestatic 164, 3) := by decide +kernel
theorem dX8_areBeside_12 : decode cX8_areBeside 12 = .ok (.iload_n 1, 1) := by decide +kernel
theorem dX8_areBeside_13 : decode cX8_areBeside 13 = .ok (.if_icmp .ne 5, 3) := by decide +kernel
theorem dX8_areBeside_16 : decode cX8_areBeside 16 = .ok (.iconst 1, 1) := by decide +kernel
theorem dX8_areBeside_17 : decode cX8_areBeside 17 = .ok (.ireturn, 1) := by decide +kernel
theorem dX8_areBeside_18 : decode cX8_areBeside 18 = .ok (.iinc 2 1, 3) := by decide +kernel
theorem dX8_areBeside_21 : decode cX8_areBeside 21 = .ok (.goto (-19), 3) := by decide +kernel
theorem dX8_areBeside_24 : decode cX8_areBeside 24 = .ok (.iconst 0, 1) := by decide +kernel
theorem dX8_areBeside_25 : decode cX8_areBeside 25 = .ok (.ireturn, 1) := by decide +kernel
theorem dX8_led_0 : decode cX8_led 0 = .ok (.iload_n 1, 1) := by decide +kernel
theorem dX8_led_1 : decode cX8_led 1 = .ok (.invokestatic 147, 3) := by decide +kernel
theorem dX8_led_4 : decode cX8_led 4 = .ok (.ifCond .eq 17, 3) := by decide +kernel
theorem dX8_led_7 : decode cX8_led 7 = .ok (.iload_n 2, 1) := by decide +kernel
theorem dX8_led_8 : decode cX8_led 8 = .ok (.invokestatic 147, 3) := by decide +kernel
theorem dX8_led_11 : decode cX8_led 11 = .ok (.ifCond .eq 10, 3) := by decide +kernel
theorem dX8_led_14 : decode cX8_led 14 = .ok (.iload_n 3, 1) := by decide +kernel
theorem dX8_led_15 : decode cX8_led 15 = .ok (.invokestatic 115, 3) := by decide +kernel
theorem dX8_led_18 : decode cX8_led 18 = .ok (.ifCond .ne 11, 3) := by decide +kernel
theorem dX8_led_21 : decode cX8_led 21 = .ok (.aload_n 0, 1) := by decide +kernel
theorem dX8_led_22 : decode cX8_led 22 = .ok (.ldc2_w 98, 3) := by decide +kernel
theorem dX8_led_25 : decode cX8_led 25 = .ok (.invokevirtual 100, 3) := by decide +kernel
theorem dX8_led_28 : decode cX8_led 28 = .ok (.lreturn, 1) := by decide +kernel
theorem dX8_led_29 : decode cX8_led 29 = .ok (.iload_n 1, 1) := by decide +kernel
theorem dX8_led_30 : decode cX8_led 30 = .ok (.iload_n 2, 1) := by decide +kernel
theorem dX8_led_31 : decode cX8_led 31 = .ok (.invokestatic 180, 3) := by decide +kernel
theorem dX8_led_34 : decode cX8_led 34 = .ok (.ifCond .ne 11, 3) := by decide +kernel
theorem dX8_led_37 : decode cX8_led 37 = .ok (.aload_n 0, 1) := by decide +kernel
theorem dX8_led_38 : decode cX8_led 38 = .ok (.ldc2_w 125, 3) := by decide +kernel
theorem dX8_led_41 : decode cX8_led 41 = .ok (.invokevirtual 100, 3) := by decide +kernel
theorem dX8_led_44 : decode cX8_led 44 = .ok (.lreturn, 1) := by decide +kernel
theorem dX8_led_45 : decode cX8_led 45 = .ok (.aload_n 0, 1) := by decide +kernel
theorem dX8_led_46 : decode cX8_led 46 = .ok (.invokevirtual 142, 3) := by decide +kernel
theorem dX8_led_49 : decode cX8_led 49 = .ok (.aload_n 0, 1) := by decide +kernel
theorem dX8_led_50 : decode cX8_led 50 = .ok (.iload_n 3, 1) := by decide +kernel
theorem dX8_led_51 : decode cX8_led 51 = .ok (.invokevirtual 150, 3) := by decide +kernel
theorem dX8_led_54 : decode cX8_led 54 = .ok (.istore 4, 2) := by decide +kernel
theorem dX8_led_56 : decode cX8_led 56 = .ok (.aload_n 0, 1) := by decide +kernel
theorem dX8_led_57 : decode cX8_led 57 = .ok (.iload 4, 2) := by decide +kernel
theorem dX8_led_59 : decode cX8_led 59 = .ok (.iload_n 1, 1) := by decide +kernel
theorem dX8_led_60 : decode cX8_led 60 = .ok (.iload_n 2, 1) := by decide +kernel
theorem dX8_led_61 : decode cX8_led 61 = .ok (.invokevirtual 183, 3) := by decide +kernel
theorem dX8_led_64 : decode cX8_led 64 = .ok (.ifCond .ne 11, 3) := by decide +kernel
theorem dX8_led_67 : decode cX8_led 67 = .ok (.aload_n 0, 1) := by decide +kernel
theorem dX8_led_68 : decode cX8_led 68 = .ok (.ldc2_w 145, 3) := by decide +kernel
theorem dX8_led_71 : decode cX8_led 71 = .ok (.invokevirtual 100, 3) := by decide +kernel
theorem dX8_led_74 : decode cX8_led 74 = .ok (.lreturn, 1) := by decide +kernel
theorem dX8_led_75 : decode cX8_led 75 = .ok (.aload_n 0, 1) := by decide +kernel
theorem dX8_led_76 : decode cX8_led 76 = .ok (.iload 4, 2) := by decide +kernel
theorem dX8_led_78 : decode cX8_led 78 = .ok (.iconst 1, 1) := by decide +kernel
theorem dX8_led_79 : decode cX8_led 79 = .ok (.isub, 1) := by decide +kernel
theorem dX8_led_80 : decode cX8_led 80 = .ok (.iload_n 1, 1) := by decide +kernel
theorem dX8_led_81 : decode cX8_led 81 = .ok (.iload_n 2, 1) := by decide +kernel
theorem dX8_led_82 : decode cX8_led 82 = .ok (.invokevirtual 183, 3) := by decide +kernel
theorem dX8_led_85 : decode cX8_led 85 = .ok (.ifCond .eq 9, 3) := by decide +kernel
theorem dX8_led_88 : decode cX8_led 88 = .ok (.iinc 4 (-1), 3) := by decide +kernel
theorem dX8_led_91 : decode cX8_led 91 = .ok (.goto (-16), 3) := by decide +kernel
theorem dX8_led_94 : decode cX8_led 94 = .ok (.aload_n 0, 1) := by decide +kernel
theorem dX8_led_95 : decode cX8_led 95 = .ok (.getfield 53, 3) := by decide +kernel
theorem dX8_led_98 : decode cX8_led 98 = .ok (.iload 4, 2) := by decide +kernel
theorem dX8_led_100 : decode cX8_led 100 = .ok (.iconst 1, 1) := by decide +kernel
theorem dX8_led_101 : decode cX8_led 101 = .ok (.isub, 1) := by decide +kernel
theorem dX8_led_102 : decode cX8_led 102 = .ok (.iaload, 1) := by decide +kernel
theorem dX8_led_103 : decode cX8_led 103 = .ok (.i2l, 1) := by decide +kernel
theorem dX8_led_104 : decode cX8_led 104 = .ok (.lreturn, 1) := by decide +kernel
theorem dX8_borders_0 : decode cX8_borders 0 = .ok (.iload_n 1, 1) := by decide +kernel
theorem dX8_borders_1 : decode cX8_borders 1 = .ok (.invokestatic 115, 3) := by decide +kernel
theorem dX8_borders_4 : decode cX8_borders 4 = .ok (.ifCond .ne 11, 3) := by decide +kernel
theorem dX8_borders_7 : decode cX8_borders 7 = .ok (.aload_n 0, 1) := by decide +kernel
theorem dX8_borders_8 : decode cX8_borders 8 = .ok (.ldc2_w 98, 3) := by decide +kernel
theorem dX8_borders_11 : decode cX8_borders 11 = .ok (.invokevirtual 100, 3) := by decide +kernel
theorem dX8_borders_14 : decode cX8_borders 14 = .ok (.lreturn, 1) := by decide +kernel
theorem dX8_borders_15 : decode cX8_borders 15 = .ok (.aload_n 0, 1) := by decide +kernel
theorem dX8_borders_16 : decode cX8_borders 16 = .ok (.invokevirtual 142, 3) := by decide +kernel
theorem dX8_borders_19 : decode cX8_borders 19 = .ok (.aload_n 0, 1) := by decide +kernel
theorem dX8_borders_20 : decode cX8_borders 20 = .ok (.iload_n 1, 1) := by decide +kernel
theorem dX8_borders_21 : decode cX8_borders 21 = .ok (.invokevirtual 150, 3) := by decide +kernel
theorem dX8_borders_24 : decode cX8_borders 24 = .ok (.istore_n 2, 1) := by decide +kernel
theorem dX8_borders_25 : decode cX8_borders 25 = .ok (.iconst 0, 1) := by decide +kernel
theorem dX8_borders_26 : decode cX8_borders 26 = .ok (.istore_n 3, 1) := by decide +kernel
theorem dX8_borders_27 : decode cX8_borders 27 = .ok (.iconst 0, 1) := by decide +kernel
theorem dX8_borders_28 : decode cX8_borders 28 = .ok (.istore 4, 2) := by decide +kernel
theorem dX8_borders_30 : decode cX8_borders 30 = .ok (.iload 4, 2) := by decide +kernel
theorem dX8_borders_32 : decode cX8_borders 32 = .ok (.bipush 36, 2) := by decide +kernel
theorem dX8_borders_34 : decode cX8_borders 34 = .ok (.if_icmp .ge 58, 3) := by decide +kernel
theorem dX8_borders_37 : decode cX8_borders 37 = .ok (.iconst 1, 1) := by decide +kernel
theorem dX8_borders_38 : decode cX8_borders 38 = .ok (.istore 5, 2) := by decide +kernel
theorem dX8_borders_40 : decode cX8_borders 40 = .ok (.iload 5, 2) := by decide +kernel
theorem dX8_borders_42 : decode cX8_borders 42 = .ok (.iconst 4, 1) := by decide +kernel
theorem dX8_borders_43 : decode cX8_borders 43 = .ok (.if_icmp .ge 43, 3) := by decide +kernel
theorem dX8_borders_46 : decode cX8_borders 46 = .ok (.iload 4, 2) := by decide +kernel
theorem dX8_borders_48 : decode cX8_borders 48 = .ok (.iload 5, 2) := by decide +kernel
theorem dX8_borders_50 : decode cX8_borders 50 = .ok (.invokestatic 164, 3) := by decide +kernel
theorem dX8_borders_53 : decode cX8_borders 53 = .ok (.istore 6, 2) := by decide +kernel
theorem dX8_borders_55 : decode cX8_borders 55 = .ok (.iload_n 3, 1) := by decide +kernel
theorem dX8_borders_56 : decode cX8_borders 56 = .ok (.iload 6, 2) := by decide +kernel
theorem dX8_borders_58 : decode cX8_borders 58 = .ok (.ifCond .lt 19, 3) := by decide +kernel
theorem dX8_borders_61 : decode cX8_borders 61 = .ok (.aload_n 0, 1) := by decide +kernel
theorem dX8_borders_62 : decode cX8_borders 62 = .ok (.iload_n 2, 1) := by decide +kernel
theorem dX8_borders_63 : decode cX8_borders 63 = .ok (.iload 4, 2) := by decide +kernel
theorem dX8_borders_65 : decode cX8_borders 65 = .ok (.iload 6, 2) := by decide +kernel
theorem dX8_borders_67 : decode cX8_borders 67 = .ok (.invokevirtual 183, 3) := by decide +kernel
theorem dX8_borders_70 : decode cX8_borders 70 = .ok (.ifCond .eq 7, 3) := by decide +kernel
theorem dX8_borders_73 : decode cX8_borders 73 = .ok (.iconst 1, 1) := by decide +kernel
theorem dX8_borders_74 : decode cX8_borders 74 = .ok (.goto 4, 3) := by decide +kernel
theorem dX8_borders_77 : decode cX8_borders 77 = .ok (.iconst 0, 1) := by decide +kernel
theorem dX8_borders_78 : decode cX8_borders 78 = .ok (.iadd, 1) := by decide +kernel
theorem dX8_borders_79 : decode cX8_borders 79 = .ok (.istore_n 3, 1) := by decide +kernel
theorem dX8_borders_80 : decode cX8_borders 80 = .ok (.iinc 5 2, 3) := by decide +kernel
theorem dX8_borders_83 : decode cX8_borders 83 = .ok (.goto (-43), 3) := by decide +kernel
theorem dX8_borders_86 : decode cX8_borders 86 = .ok (.iinc 4 1, 3) := by decide +kernel
theorem dX8_borders_89 : decode cX8_borders 89 = .ok (.goto (-59), 3) := by decide +kernel
theorem dX8_borders_92 : decode cX8_borders 92 = .ok (.iload_n 3, 1) := by decide +kernel
theorem dX8_borders_93 : decode cX8_borders 93 = .ok (.i2l, 1) := by decide +kernel
theorem dX8_borders_94 : decode cX8_borders 94 = .ok (.lreturn, 1) := by decide +kernel
theorem dX8_changes_0 : decode cX8_changes 0 = .ok (.aload_n 0, 1) := by decide +kernel
theorem dX8_changes_1 : decode cX8_changes 1 = .ok (.iload_n 1, 1) := by decide +kernel
theorem dX8_changes_2 : decode cX8_changes 2 = .ok (.invokevirtual 106, 3) := by decide +kernel
theorem dX8_changes_5 : decode cX8_changes 5 = .ok (.ifCond .eq 10, 3) := by decide +kernel
theorem dX8_changes_8 : decode cX8_changes 8 = .ok (.iload_n 2, 1) := by decide +kernel
theorem dX8_changes_9 : decode cX8_changes 9 = .ok (.invokestatic 115, 3) := by decide +kernel
theorem dX8_changes_12 : decode cX8_changes 12 = .ok (.ifCond .ne 11, 3) := by decide +kernel
theorem dX8_changes_15 : decode cX8_changes 15 = .ok (.aload_n 0, 1) := by decide +kernel
theorem dX8_changes_16 : decode cX8_changes 16 = .ok (.ldc2_w 98, 3) := by decide +kernel
theorem dX8_changes_19 : decode cX8_changes 19 = .ok (.invokevirtual 100, 3) := by decide +kernel
theorem dX8_changes_22 : decode cX8_changes 22 = .ok (.lreturn, 1) := by decide +kernel
theorem dX8_changes_23 : decode cX8_changes 23 = .ok (.aload_n 0, 1) := by decide +kernel
theorem dX8_changes_24 : decode cX8_changes 24 = .ok (.invokevirtual 142, 3) := by decide +kernel
theorem dX8_changes_27 : decode cX8_changes 27 = .ok (.iload_n 2, 1) := by decide +kernel
theorem dX8_changes_28 : decode cX8_changes 28 = .ok (.sipush 1000, 3) := by decide +kernel
theorem dX8_changes_31 : decode cX8_changes 31 = .ok (.if_icmp .ne 7, 3) := by decide +kernel
theorem dX8_changes_34 : decode cX8_changes 34 = .ok (.lconst 0, 1) := by decide +kernel
theorem dX8_changes_35 : decode cX8_changes 35 = .ok (.goto 15, 3) := by decide +kernel
theorem dX8_changes_38 : decode cX8_changes 38 = .ok (.aload_n 0, 1) := by decide +kernel
theorem dX8_changes_39 : decode cX8_changes 39 = .ok (.iload_n 1, 1) := by decide +kernel
theorem dX8_changes_40 : decode cX8_changes 40 = .ok (.aload_n 0, 1) := by decide +kernel
theorem dX8_changes_41 : decode cX8_changes 41 = .ok (.iload_n 2, 1) := by decide +kernel
theorem dX8_changes_42 : decode cX8_changes 42 = .ok (.iconst 1, 1) := by decide +kernel
theorem dX8_changes_43 : decode cX8_changes 43 = .ok (.isub, 1) := by decide +kernel
theorem dX8_changes_44 : decode cX8_changes 44 = .ok (.invokevirtual 150, 3) := by decide +kernel
theorem dX8_changes_47 : decode cX8_changes 47 = .ok (.invokevirtual 154, 3) := by decide +kernel
theorem dX8_changes_50 : decode cX8_changes 50 = .ok (.lstore_n 3, 1) := by decide +kernel
theorem dX8_changes_51 : decode cX8_changes 51 = .ok (.iload_n 2, 1) := by decide +kernel
theorem dX8_changes_52 : decode cX8_changes 52 = .ok (.istore 5, 2) := by decide +kernel
theorem dX8_changes_54 : decode cX8_changes 54 = .ok (.iload 5, 2) := by decide +kernel
theorem dX8_changes_56 : decode cX8_changes 56 = .ok (.sipush 2000, 3) := by decide +kernel
theorem dX8_changes_59 : decode cX8_changes 59 = .ok (.if_icmp .ge 33, 3) := by decide +kernel
theorem dX8_changes_62 : decode cX8_changes 62 = .ok (.aload_n 0, 1) := by decide +kernel
theorem dX8_changes_63 : decode cX8_changes 63 = .ok (.iload_n 1, 1) := by decide +kernel
theorem dX8_changes_64 : decode cX8_changes 64 = .ok (.aload_n 0, 1) := by decide +kernel
theorem dX8_changes_65 : decode cX8_changes 65 = .ok (.iload 5, 2) := by decide +kernel
theorem dX8_changes_67 : decode cX8_changes 67 = .ok (.invokevirtual 150, 3) := by decide +kernel
theorem dX8_changes_70 : decode cX8_changes 70 = .ok (.invokevirtual 154, 3) := by decide +kernel
theorem dX8_changes_73 : decode cX8_changes 73 = .ok (.lstore 6, 2) := by decide +kernel
theorem dX8_changes_75 : decode cX8_changes 75 = .ok (.lload 6, 2) := by decide +kernel
theorem dX8_changes_77 : decode cX8_changes 77 = .ok (.lload_n 3, 1) := by decide +kernel
theorem dX8_changes_78 : decode cX8_changes 78 = .ok (.lcmp, 1) := by decide +kernel
theorem dX8_changes_79 : decode cX8_changes 79 = .ok (.ifCond .eq 7, 3) := by decide +kernel
theorem dX8_changes_82 : decode cX8_changes 82 = .ok (.iload 5, 2) := by decide +kernel
theorem dX8_changes_84 : decode cX8_changes 84 = .ok (.i2l, 1) := by decide +kernel
theorem dX8_changes_85 : decode cX8_changes 85 = .ok (.lreturn, 1) := by decide +kernel
theorem dX8_changes_86 : decode cX8_changes 86 = .ok (.iinc 5 1, 3) := by decide +kernel
theorem dX8_changes_89 : decode cX8_changes 89 = .ok (.goto (-35), 3) := by decide +kernel
theorem dX8_changes_92 : decode cX8_changes 92 = .ok (.aload_n 0, 1) := by decide +kernel
theorem dX8_changes_93 : decode cX8_changes 93 = .ok (.ldc2_w 145, 3) := by decide +kernel
theorem dX8_changes_96 : decode cX8_changes 96 = .ok (.invokevirtual 100, 3) := by decide +kernel
theorem dX8_changes_99 : decode cX8_changes 99 = .ok (.lreturn, 1) := by decide +kernel
theorem dX8_isMap_0 : decode cX8_isMap 0 = .ok (.iload_n 0, 1) := by decide +kernel
theorem dX8_isMap_1 : decode cX8_isMap 1 = .ok (.i2l, 1) := by decide +kernel
theorem dX8_isMap_2 : decode cX8_isMap 2 = .ok (.lconst 0, 1) := by decide +kernel
theorem dX8_isMap_3 : decode cX8_isMap 3 = .ok (.ldc2_w 96, 3) := by decide +kernel
theorem dX8_isMap_6 : decode cX8_isMap 6 = .ok (.invokestatic 86, 3) := by decide +kernel
theorem dX8_isMap_9 : decode cX8_isMap 9 = .ok (.ireturn, 1) := by decide +kernel
theorem dX8_map_0 : decode cX8_map 0 = .ok (.iload_n 1, 1) := by decide +kernel
theorem dX8_map_1 : decode cX8_map 1 = .ok (.invokestatic 187, 3) := by decide +kernel
theorem dX8_map_4 : decode cX8_map 4 = .ok (.ifCond .eq 10, 3) := by decide +kernel
theorem dX8_map_7 : decode cX8_map 7 = .ok (.iload_n 2, 1) := by decide +kernel
theorem dX8_map_8 : decode cX8_map 8 = .ok (.invokestatic 115, 3) := by decide +kernel
theorem dX8_map_11 : decode cX8_map 11 = .ok (.ifCond .ne 11, 3) := by decide +kernel
theorem dX8_map_14 : decode cX8_map 14 = .ok (.aload_n 0, 1) := by decide +kernel
theorem dX8_map_15 : decode cX8_map 15 = .ok (.ldc2_w 98, 3) := by decide +kernel
theorem dX8_map_18 : decode cX8_map 18 = .ok (.invokevirtual 100, 3) := by decide +kernel
theorem dX8_map_21 : decode cX8_map 21 = .ok (.lreturn, 1) := by decide +kernel
theorem dX8_map_22 : decode cX8_map 22 = .ok (.aload_n 0, 1) := by decide +kernel
theorem dX8_map_23 : decode cX8_map 23 = .ok (.getfield 29, 3) := by decide +kernel
theorem dX8_map_26 : decode cX8_map 26 = .ok (.iload_n 1, 1) := by decide +kernel
theorem dX8_map_27 : decode cX8_map 27 = .ok (.iaload, 1) := by decide +kernel
theorem dX8_map_28 : decode cX8_map 28 = .ok (.istore_n 3, 1) := by decide +kernel
theorem dX8_map_29 : decode cX8_map 29 = .ok (.aload_n 0, 1) := by decide +kernel
theorem dX8_map_30 : decode cX8_map 30 = .ok (.getfield 29, 3) := by decide +kernel
theorem dX8_map_33 : decode cX8_map 33 = .ok (.iload_n 1, 1) := by decide +kernel
theorem dX8_map_34 : decode cX8_map 34 = .ok (.iload_n 2, 1) := by decide +kernel
theorem dX8_map_35 : decode cX8_map 35 = .ok (.iastore, 1) := by decide +kernel
theorem dX8_map_36 : decode cX8_map 36 = .ok (.iload_n 3, 1) := by decide +kernel
theorem dX8_map_37 : decode cX8_map 37 = .ok (.i2l, 1) := by decide +kernel
theorem dX8_map_38 : decode cX8_map 38 = .ok (.lreturn, 1) := by decide +kernel
theorem dX8_claim_0 : decode cX8_claim 0 = .ok (.iload_n 1, 1) := by decide +kernel
theorem dX8_claim_1 : decode cX8_claim 1 = .ok (.invokestatic 187, 3) := by decide +kernel
theorem dX8_claim_4 : decode cX8_claim 4 = .ok (.ifCond .eq 29, 3) := by decide +kernel
theorem dX8_claim_7 : decode cX8_claim 7 = .ok (.iload_n 2, 1) := by decide +kernel
theorem dX8_claim_8 : decode cX8_claim 8 = .ok (.invokestatic 147, 3) := by decide +kernel
theorem dX8_claim_11 : decode cX8_claim 11 = .ok (.ifCond .eq 22, 3) := by decide +kernel
theorem dX8_claim_14 : decode cX8_claim 14 = .ok (.iload_n 3, 1) := by decide +kernel
theorem dX8_claim_15 : decode cX8_claim 15 = .ok (.iconst (-1), 1) := by decide +kernel
theorem dX8_claim_16 : decode cX8_claim 16 = .ok (.if_icmp .eq 25, 3) := by decide +kernel
theorem dX8_claim_19 : decode cX8_claim 19 = .ok (.iload_n 3, 1) := by decide +kernel
theorem dX8_claim_20 : decode cX8_claim 20 = .ok (.bipush 10, 2) := by decide +kernel
theorem dX8_claim_22 : decode cX8_claim 22 = .ok (.if_icmp .eq 19, 3) := by decide +kernel
theorem dX8_claim_25 : decode cX8_claim 25 = .ok (.aload_n 0, 1) := by decide +kernel
theorem dX8_claim_26 : decode cX8_claim 26 = .ok (.iload_n 3, 1) := by decide +kernel
theorem dX8_claim_27 : decode cX8_claim 27 = .ok (.invokevirtual 106, 3) := by decide +kernel
theorem dX8_claim_30 : decode cX8_claim 30 = .ok (.ifCond .ne 11, 3) := by decide +kernel
theorem dX8_claim_33 : decode cX8_claim 33 = .ok (.aload_n 0, 1) := by decide +kernel
theorem dX8_claim_34 : decode cX8_claim 34 = .ok (.ldc2_w 98, 3) := by decide +kernel
theorem dX8_claim_37 : decode cX8_claim 37 = .ok (.invokevirtual 100, 3) := by decide +kernel
theorem dX8_claim_40 : decode cX8_claim 40 = .ok (.lreturn, 1) := by decide +kernel
theorem dX8_claim_41 : decode cX8_claim 41 = .ok (.aload_n 0, 1) := by decide +kernel
theorem dX8_claim_42 : decode cX8_claim 42 = .ok (.iload_n 3, 1) := by decide +kernel
theorem dX8_claim_43 : decode cX8_claim 43 = .ok (.invokevirtual 106, 3) := by decide +kernel
theorem dX8_claim_46 : decode cX8_claim 46 = .ok (.ifCond .eq 19, 3) := by decide +kernel
theorem dX8_claim_49 : decode cX8_claim 49 = .ok (.aload_n 0, 1) := by decide +kernel
theorem dX8_claim_50 : decode cX8_claim 50 = .ok (.iload_n 3, 1) := by decide +kernel
theorem dX8_claim_51 : decode cX8_claim 51 = .ok (.invokevirtual 118, 3) := by decide +kernel
theorem dX8_claim_54 : decode cX8_claim 54 = .ok (.ifCond .eq 11, 3) := by decide +kernel
theorem dX8_claim_57 : decode cX8_claim 57 = .ok (.aload_n 0, 1) := by decide +kernel
theorem dX8_claim_58 : decode cX8_claim 58 = .ok (.ldc2_w 110, 3) := by decide +kernel
theorem dX8_claim_61 : decode cX8_claim 61 = .ok (.invokevirtual 100, 3) := by decide +kernel
theorem dX8_claim_64 : decode cX8_claim 64 = .ok (.lreturn, 1) := by decide +kernel
theorem dX8_claim_65 : decode cX8_claim 65 = .ok (.aload_n 0, 1) := by decide +kernel
theorem dX8_claim_66 : decode cX8_claim 66 = .ok (.getfield 32, 3) := by decide +kernel
theorem dX8_claim_69 : decode cX8_claim 69 = .ok (.bipush 36, 2) := by decide +kernel
theorem dX8_claim_71 : decode cX8_claim 71 = .ok (.iload_n 1, 1) := by decide +kernel
theorem dX8_claim_72 : decode cX8_claim 72 = .ok (.imul, 1) := by decide +kernel
theorem dX8_claim_73 : decode cX8_claim 73 = .ok (.iload_n 2, 1) := by decide +kernel
theorem dX8_claim_74 : decode cX8_claim 74 = .ok (.iadd, 1) := by decide +kernel
theorem dX8_claim_75 : decode cX8_claim 75 = .ok (.iaload, 1) := by decide +kernel
theorem dX8_claim_76 : decode cX8_claim 76 = .ok (.istore 4, 2) := by decide +kernel
theorem dX8_claim_78 : decode cX8_claim 78 = .ok (.aload_n 0, 1) := by decide +kernel
theorem dX8_claim_79 : decode cX8_claim 79 = .ok (.getfield 32, 3) := by decide +kernel
theorem dX8_claim_82 : decode cX8_claim 82 = .ok (.bipush 36, 2) := by decide +kernel
theorem dX8_claim_84 : decode cX8_claim 84 = .ok (.iload_n 1, 1) := by decide +kernel
theorem dX8_claim_85 : decode cX8_claim 85 = .ok (.imul, 1) := by decide +kernel
theorem dX8_claim_86 : decode cX8_claim 86 = .ok (.iload_n 2, 1) := by decide +kernel
theorem dX8_claim_87 : decode cX8_claim 87 = .ok (.iadd, 1) := by decide +kernel
theorem dX8_claim_88 : decode cX8_claim 88 = .ok (.iload_n 3, 1) := by decide +kernel
theorem dX8_claim_89 : decode cX8_claim 89 = .ok (.iastore, 1) := by decide +kernel
theorem dX8_claim_90 : decode cX8_claim 90 = .ok (.iload 4, 2) := by decide +kernel
theorem dX8_claim_92 : decode cX8_claim 92 = .ok (.ifCond .ge 7, 3) := by decide +kernel
theorem dX8_claim_95 : decode cX8_claim 95 = .ok (.lconst 0, 1) := by decide +kernel
theorem dX8_claim_96 : decode cX8_claim 96 = .ok (.goto 4, 3) := by decide +kernel
theorem dX8_claim_99 : decode cX8_claim 99 = .ok (.lconst 1, 1) := by decide +kernel
theorem dX8_claim_100 : decode cX8_claim 100 = .ok (.lreturn, 1) := by decide +kernel
theorem dX8_agrees_0 : decode cX8_agrees 0 = .ok (.iconst 0, 1) := by decide +kernel
theorem dX8_agrees_1 : decode cX8_agrees 1 = .ok (.istore_n 3, 1) := by decide +kernel
theorem dX8_agrees_2 : decode cX8_agrees 2 = .ok (.iconst 0, 1) := by decide +kernel
theorem dX8_agrees_3 : decode cX8_agrees 3 = .ok (.istore 4, 2) := by decide +kernel
theorem dX8_agrees_5 : decode cX8_agrees 5 = .ok (.iload 4, 2) := by decide +kernel
theorem dX8_agrees_7 : decode cX8_agrees 7 = .ok (.bipush 36, 2) := by decide +kernel
theorem dX8_agrees_9 : decode cX8_agrees 9 = .ok (.if_icmp .ge 44, 3) := by decide +kernel
theorem dX8_agrees_12 : decode cX8_agrees 12 = .ok (.iload_n 3, 1) := by decide +kernel
theorem dX8_agrees_13 : decode cX8_agrees 13 = .ok (.aload_n 0, 1) := by decide +kernel
theorem dX8_agrees_14 : decode cX8_agrees 14 = .ok (.getfield 32, 3) := by decide +kernel
theorem dX8_agrees_17 : decode cX8_agrees 17 = .ok (.bipush 36, 2) := by decide +kernel
theorem dX8_agrees_19 : decode cX8_agrees 19 = .ok (.iload_n 1, 1) := by decide +kernel
theorem dX8_agrees_20 : decode cX8_agrees 20 = .ok (.imul, 1) := by decide +kernel
theorem dX8_agrees_21 : decode cX8_agrees 21 = .ok (.iload 4, 2) := by decide +kernel
theorem dX8_agrees_23 : decode cX8_agrees 23 = .ok (.iadd, 1) := by decide +kernel
theorem dX8_agrees_24 : decode cX8_agrees 24 = .ok (.iaload, 1) := by decide +kernel
theorem dX8_agrees_25 : decode cX8_agrees 25 = .ok (.aload_n 0, 1) := by decide +kernel
theorem dX8_agrees_26 : decode cX8_agrees 26 = .ok (.getfield 59, 3) := by decide +kernel
theorem dX8_agrees_29 : decode cX8_agrees 29 = .ok (.bipush 36, 2) := by decide +kernel
theorem dX8_agrees_31 : decode cX8_agrees 31 = .ok (.iload_n 2, 1) := by decide +kernel
theorem dX8_agrees_32 : decode cX8_agrees 32 = .ok (.imul, 1) := by decide +kernel
theorem dX8_agrees_33 : decode cX8_agrees 33 = .ok (.iload 4, 2) := by decide +kernel
theorem dX8_agrees_35 : decode cX8_agrees 35 = .ok (.iadd, 1) := by decide +kernel
theorem dX8_agrees_36 : decode cX8_agrees 36 = .ok (.iaload, 1) := by decide +kernel
theorem dX8_agrees_37 : decode cX8_agrees 37 = .ok (.if_icmp .ne 7, 3) := by decide +kernel
theorem dX8_agrees_40 : decode cX8_agrees 40 = .ok (.iconst 1, 1) := by decide +kernel
theorem dX8_agrees_41 : decode cX8_agrees 41 = .ok (.goto 4, 3) := by decide +kernel
theorem dX8_agrees_44 : decode cX8_agrees 44 = .ok (.iconst 0, 1) := by decide +kernel
theorem dX8_agrees_45 : decode cX8_agrees 45 = .ok (.iadd, 1) := by decide +kernel
theorem dX8_agrees_46 : decode cX8_agrees 46 = .ok (.istore_n 3, 1) := by decide +kernel
theorem dX8_agrees_47 : decode cX8_agrees 47 = .ok (.iinc 4 1, 3) := by decide +kernel
end
section
theorem dX8_agrees_50 : decode cX8_agrees 50 = .ok (.goto (-45), 3) := by decide +kernel
theorem dX8_agrees_53 : decode cX8_agrees 53 = .ok (.iload_n 3, 1) := by decide +kernel
theorem dX8_agrees_54 : decode cX8_agrees 54 = .ok (.ireturn, 1) := by decide +kernel
theorem dX8_claimsOf_0 : decode cX8_claimsOf 0 = .ok (.iconst 0, 1) := by decide +kernel
theorem dX8_claimsOf_1 : decode cX8_claimsOf 1 = .ok (.istore_n 2, 1) := by decide +kernel
theorem dX8_claimsOf_2 : decode cX8_claimsOf 2 = .ok (.iconst 0, 1) := by decide +kernel
theorem dX8_claimsOf_3 : decode cX8_claimsOf 3 = .ok (.istore_n 3, 1) := by decide +kernel
theorem dX8_claimsOf_4 : decode cX8_claimsOf 4 = .ok (.iload_n 3, 1) := by decide +kernel
theorem dX8_claimsOf_5 : decode cX8_claimsOf 5 = .ok (.bipush 36, 2) := by decide +kernel
theorem dX8_claimsOf_7 : decode cX8_claimsOf 7 = .ok (.if_icmp .ge 31, 3) := by decide +kernel
theorem dX8_claimsOf_10 : decode cX8_claimsOf 10 = .ok (.iload_n 2, 1) := by decide +kernel
theorem dX8_claimsOf_11 : decode cX8_claimsOf 11 = .ok (.aload_n 0, 1) := by decide +kernel
theorem dX8_claimsOf_12 : decode cX8_claimsOf 12 = .ok (.getfield 32, 3) := by decide +kernel
theorem dX8_claimsOf_15 : decode cX8_claimsOf 15 = .ok (.bipush 36, 2) := by decide +kernel
theorem dX8_claimsOf_17 : decode cX8_claimsOf 17 = .ok (.iload_n 1, 1) := by decide +kernel
theorem dX8_claimsOf_18 : decode cX8_claimsOf 18 = .ok (.imul, 1) := by decide +kernel
theorem dX8_claimsOf_19 : decode cX8_claimsOf 19 = .ok (.iload_n 3, 1) := by decide +kernel
theorem dX8_claimsOf_20 : decode cX8_claimsOf 20 = .ok (.iadd, 1) := by decide +kernel
theorem dX8_claimsOf_21 : decode cX8_claimsOf 21 = .ok (.iaload, 1) := by decide +kernel
theorem dX8_claimsOf_22 : decode cX8_claimsOf 22 = .ok (.ifCond .lt 7, 3) := by decide +kernel
theorem dX8_claimsOf_25 : decode cX8_claimsOf 25 = .ok (.iconst 1, 1) := by decide +kernel
theorem dX8_claimsOf_26 : decode cX8_claimsOf 26 = .ok (.goto 4, 3) := by decide +kernel
theorem dX8_claimsOf_29 : decode cX8_claimsOf 29 = .ok (.iconst 0, 1) := by decide +kernel
theorem dX8_claimsOf_30 : decode cX8_claimsOf 30 = .ok (.iadd, 1) := by decide +kernel
theorem dX8_claimsOf_31 : decode cX8_claimsOf 31 = .ok (.istore_n 2, 1) := by decide +kernel
theorem dX8_claimsOf_32 : decode cX8_claimsOf 32 = .ok (.iinc 3 1, 3) := by decide +kernel
theorem dX8_claimsOf_35 : decode cX8_claimsOf 35 = .ok (.goto (-31), 3) := by decide +kernel
theorem dX8_claimsOf_38 : decode cX8_claimsOf 38 = .ok (.iload_n 2, 1) := by decide +kernel
theorem dX8_claimsOf_39 : decode cX8_claimsOf 39 = .ok (.ireturn, 1) := by decide +kernel
theorem dX8_read_0 : decode cX8_read 0 = .ok (.iload_n 1, 1) := by decide +kernel
theorem dX8_read_1 : decode cX8_read 1 = .ok (.invokestatic 187, 3) := by decide +kernel
theorem dX8_read_4 : decode cX8_read 4 = .ok (.ifCond .eq 15, 3) := by decide +kernel
theorem dX8_read_7 : decode cX8_read 7 = .ok (.iload_n 2, 1) := by decide +kernel
theorem dX8_read_8 : decode cX8_read 8 = .ok (.i2l, 1) := by decide +kernel
theorem dX8_read_9 : decode cX8_read 9 = .ok (.lconst 0, 1) := by decide +kernel
theorem dX8_read_10 : decode cX8_read 10 = .ok (.ldc2_w 96, 3) := by decide +kernel
theorem dX8_read_13 : decode cX8_read 13 = .ok (.invokestatic 86, 3) := by decide +kernel
theorem dX8_read_16 : decode cX8_read 16 = .ok (.ifCond .ne 11, 3) := by decide +kernel
theorem dX8_read_19 : decode cX8_read 19 = .ok (.aload_n 0, 1) := by decide +kernel
theorem dX8_read_20 : decode cX8_read 20 = .ok (.ldc2_w 98, 3) := by decide +kernel
theorem dX8_read_23 : decode cX8_read 23 = .ok (.invokevirtual 100, 3) := by decide +kernel
theorem dX8_read_26 : decode cX8_read 26 = .ok (.lreturn, 1) := by decide +kernel
theorem dX8_read_27 : decode cX8_read 27 = .ok (.aload_n 0, 1) := by decide +kernel
theorem dX8_read_28 : decode cX8_read 28 = .ok (.invokevirtual 142, 3) := by decide +kernel
theorem dX8_read_31 : decode cX8_read 31 = .ok (.aload_n 0, 1) := by decide +kernel
theorem dX8_read_32 : decode cX8_read 32 = .ok (.aload_n 0, 1) := by decide +kernel
theorem dX8_read_33 : decode cX8_read 33 = .ok (.getfield 29, 3) := by decide +kernel
theorem dX8_read_36 : decode cX8_read 36 = .ok (.iload_n 1, 1) := by decide +kernel
theorem dX8_read_37 : decode cX8_read 37 = .ok (.iaload, 1) := by decide +kernel
theorem dX8_read_38 : decode cX8_read 38 = .ok (.invokevirtual 150, 3) := by decide +kernel
theorem dX8_read_41 : decode cX8_read 41 = .ok (.istore_n 3, 1) := by decide +kernel
theorem dX8_read_42 : decode cX8_read 42 = .ok (.iload_n 2, 1) := by decide +kernel
theorem dX8_read_43 : decode cX8_read 43 = .ok (.iconst 3, 1) := by decide +kernel
theorem dX8_read_44 : decode cX8_read 44 = .ok (.if_icmp .ge 39, 3) := by decide +kernel
theorem dX8_read_47 : decode cX8_read 47 = .ok (.iload_n 2, 1) := by decide +kernel
theorem dX8_read_48 : decode cX8_read 48 = .ok (.ifCond .ne 13, 3) := by decide +kernel
theorem dX8_read_51 : decode cX8_read 51 = .ok (.aload_n 0, 1) := by decide +kernel
theorem dX8_read_52 : decode cX8_read 52 = .ok (.getfield 29, 3) := by decide +kernel
theorem dX8_read_55 : decode cX8_read 55 = .ok (.iload_n 1, 1) := by decide +kernel
theorem dX8_read_56 : decode cX8_read 56 = .ok (.iaload, 1) := by decide +kernel
theorem dX8_read_57 : decode cX8_read 57 = .ok (.i2l, 1) := by decide +kernel
theorem dX8_read_58 : decode cX8_read 58 = .ok (.goto 24, 3) := by decide +kernel
theorem dX8_read_61 : decode cX8_read 61 = .ok (.iload_n 2, 1) := by decide +kernel
theorem dX8_read_62 : decode cX8_read 62 = .ok (.iconst 1, 1) := by decide +kernel
theorem dX8_read_63 : decode cX8_read 63 = .ok (.if_icmp .ne 12, 3) := by decide +kernel
theorem dX8_read_66 : decode cX8_read 66 = .ok (.aload_n 0, 1) := by decide +kernel
theorem dX8_read_67 : decode cX8_read 67 = .ok (.iload_n 1, 1) := by decide +kernel
theorem dX8_read_68 : decode cX8_read 68 = .ok (.invokevirtual 190, 3) := by decide +kernel
theorem dX8_read_71 : decode cX8_read 71 = .ok (.i2l, 1) := by decide +kernel
theorem dX8_read_72 : decode cX8_read 72 = .ok (.goto 10, 3) := by decide +kernel
theorem dX8_read_75 : decode cX8_read 75 = .ok (.aload_n 0, 1) := by decide +kernel
theorem dX8_read_76 : decode cX8_read 76 = .ok (.iload_n 1, 1) := by decide +kernel
theorem dX8_read_77 : decode cX8_read 77 = .ok (.iload_n 3, 1) := by decide +kernel
theorem dX8_read_78 : decode cX8_read 78 = .ok (.invokevirtual 193, 3) := by decide +kernel
theorem dX8_read_81 : decode cX8_read 81 = .ok (.i2l, 1) := by decide +kernel
theorem dX8_read_82 : decode cX8_read 82 = .ok (.lreturn, 1) := by decide +kernel
theorem dX8_read_83 : decode cX8_read 83 = .ok (.iconst 0, 1) := by decide +kernel
theorem dX8_read_84 : decode cX8_read 84 = .ok (.istore 4, 2) := by decide +kernel
theorem dX8_read_86 : decode cX8_read 86 = .ok (.iload 4, 2) := by decide +kernel
theorem dX8_read_88 : decode cX8_read 88 = .ok (.bipush 36, 2) := by decide +kernel
theorem dX8_read_90 : decode cX8_read 90 = .ok (.if_icmp .ge 51, 3) := by decide +kernel
theorem dX8_read_93 : decode cX8_read 93 = .ok (.aload_n 0, 1) := by decide +kernel
theorem dX8_read_94 : decode cX8_read 94 = .ok (.getfield 32, 3) := by decide +kernel
theorem dX8_read_97 : decode cX8_read 97 = .ok (.bipush 36, 2) := by decide +kernel
theorem dX8_read_99 : decode cX8_read 99 = .ok (.iload_n 1, 1) := by decide +kernel
theorem dX8_read_100 : decode cX8_read 100 = .ok (.imul, 1) := by decide +kernel
theorem dX8_read_101 : decode cX8_read 101 = .ok (.iload 4, 2) := by decide +kernel
theorem dX8_read_103 : decode cX8_read 103 = .ok (.iadd, 1) := by decide +kernel
theorem dX8_read_104 : decode cX8_read 104 = .ok (.iaload, 1) := by decide +kernel
theorem dX8_read_105 : decode cX8_read 105 = .ok (.ifCond .lt 30, 3) := by decide +kernel
theorem dX8_read_108 : decode cX8_read 108 = .ok (.aload_n 0, 1) := by decide +kernel
theorem dX8_read_109 : decode cX8_read 109 = .ok (.getfield 32, 3) := by decide +kernel
theorem dX8_read_112 : decode cX8_read 112 = .ok (.bipush 36, 2) := by decide +kernel
theorem dX8_read_114 : decode cX8_read 114 = .ok (.iload_n 1, 1) := by decide +kernel
theorem dX8_read_115 : decode cX8_read 115 = .ok (.imul, 1) := by decide +kernel
theorem dX8_read_116 : decode cX8_read 116 = .ok (.iload 4, 2) := by decide +kernel
theorem dX8_read_118 : decode cX8_read 118 = .ok (.iadd, 1) := by decide +kernel
theorem dX8_read_119 : decode cX8_read 119 = .ok (.iaload, 1) := by decide +kernel
theorem dX8_read_120 : decode cX8_read 120 = .ok (.aload_n 0, 1) := by decide +kernel
theorem dX8_read_121 : decode cX8_read 121 = .ok (.getfield 59, 3) := by decide +kernel
theorem dX8_read_124 : decode cX8_read 124 = .ok (.bipush 36, 2) := by decide +kernel
theorem dX8_read_126 : decode cX8_read 126 = .ok (.iload_n 3, 1) := by decide +kernel
theorem dX8_read_127 : decode cX8_read 127 = .ok (.imul, 1) := by decide +kernel
theorem dX8_read_128 : decode cX8_read 128 = .ok (.iload 4, 2) := by decide +kernel
theorem dX8_read_130 : decode cX8_read 130 = .ok (.iadd, 1) := by decide +kernel
theorem dX8_read_131 : decode cX8_read 131 = .ok (.iaload, 1) := by decide +kernel
theorem dX8_read_132 : decode cX8_read 132 = .ok (.if_icmp .ne 9, 3) := by decide +kernel
theorem dX8_read_135 : decode cX8_read 135 = .ok (.iinc 4 1, 3) := by decide +kernel
theorem dX8_read_138 : decode cX8_read 138 = .ok (.goto (-52), 3) := by decide +kernel
theorem dX8_read_141 : decode cX8_read 141 = .ok (.iload 4, 2) := by decide +kernel
theorem dX8_read_143 : decode cX8_read 143 = .ok (.i2l, 1) := by decide +kernel
theorem dX8_read_144 : decode cX8_read 144 = .ok (.lreturn, 1) := by decide +kernel
theorem dX8_best_0 : decode cX8_best 0 = .ok (.iload_n 1, 1) := by decide +kernel
theorem dX8_best_1 : decode cX8_best 1 = .ok (.invokestatic 187, 3) := by decide +kernel
theorem dX8_best_4 : decode cX8_best 4 = .ok (.ifCond .eq 22, 3) := by decide +kernel
theorem dX8_best_7 : decode cX8_best 7 = .ok (.iload_n 2, 1) := by decide +kernel
theorem dX8_best_8 : decode cX8_best 8 = .ok (.invokestatic 115, 3) := by decide +kernel
theorem dX8_best_11 : decode cX8_best 11 = .ok (.ifCond .eq 15, 3) := by decide +kernel
theorem dX8_best_14 : decode cX8_best 14 = .ok (.iload_n 3, 1) := by decide +kernel
theorem dX8_best_15 : decode cX8_best 15 = .ok (.invokestatic 115, 3) := by decide +kernel
theorem dX8_best_18 : decode cX8_best 18 = .ok (.ifCond .eq 8, 3) := by decide +kernel
theorem dX8_best_21 : decode cX8_best 21 = .ok (.iload_n 2, 1) := by decide +kernel
theorem dX8_best_22 : decode cX8_best 22 = .ok (.iload_n 3, 1) := by decide +kernel
theorem dX8_best_23 : decode cX8_best 23 = .ok (.if_icmp .le 11, 3) := by decide +kernel
theorem dX8_best_26 : decode cX8_best 26 = .ok (.aload_n 0, 1) := by decide +kernel
theorem dX8_best_27 : decode cX8_best 27 = .ok (.ldc2_w 98, 3) := by decide +kernel
theorem dX8_best_30 : decode cX8_best 30 = .ok (.invokevirtual 100, 3) := by decide +kernel
theorem dX8_best_33 : decode cX8_best 33 = .ok (.lreturn, 1) := by decide +kernel
theorem dX8_best_34 : decode cX8_best 34 = .ok (.aload_n 0, 1) := by decide +kernel
theorem dX8_best_35 : decode cX8_best 35 = .ok (.invokevirtual 142, 3) := by decide +kernel
theorem dX8_best_38 : decode cX8_best 38 = .ok (.iload_n 2, 1) := by decide +kernel
theorem dX8_best_39 : decode cX8_best 39 = .ok (.istore 4, 2) := by decide +kernel
theorem dX8_best_41 : decode cX8_best 41 = .ok (.aload_n 0, 1) := by decide +kernel
theorem dX8_best_42 : decode cX8_best 42 = .ok (.iload_n 1, 1) := by decide +kernel
theorem dX8_best_43 : decode cX8_best 43 = .ok (.aload_n 0, 1) := by decide +kernel
theorem dX8_best_44 : decode cX8_best 44 = .ok (.iload_n 2, 1) := by decide +kernel
theorem dX8_best_45 : decode cX8_best 45 = .ok (.invokevirtual 150, 3) := by decide +kernel
theorem dX8_best_48 : decode cX8_best 48 = .ok (.invokevirtual 193, 3) := by decide +kernel
theorem dX8_best_51 : decode cX8_best 51 = .ok (.istore 5, 2) := by decide +kernel
theorem dX8_best_53 : decode cX8_best 53 = .ok (.iload_n 2, 1) := by decide +kernel
theorem dX8_best_54 : decode cX8_best 54 = .ok (.istore 6, 2) := by decide +kernel
theorem dX8_best_56 : decode cX8_best 56 = .ok (.iload 6, 2) := by decide +kernel
theorem dX8_best_58 : decode cX8_best 58 = .ok (.iload_n 3, 1) := by decide +kernel
theorem dX8_best_59 : decode cX8_best 59 = .ok (.if_icmp .gt 40, 3) := by decide +kernel
theorem dX8_best_62 : decode cX8_best 62 = .ok (.aload_n 0, 1) := by decide +kernel
theorem dX8_best_63 : decode cX8_best 63 = .ok (.iload_n 1, 1) := by decide +kernel
theorem dX8_best_64 : decode cX8_best 64 = .ok (.aload_n 0, 1) := by decide +kernel
theorem dX8_best_65 : decode cX8_best 65 = .ok (.iload 6, 2) := by decide +kernel
theorem dX8_best_67 : decode cX8_best 67 = .ok (.invokevirtual 150, 3) := by decide +kernel
theorem dX8_best_70 : decode cX8_best 70 = .ok (.invokevirtual 193, 3) := by decide +kernel
theorem dX8_best_73 : decode cX8_best 73 = .ok (.istore 7, 2) := by decide +kernel
theorem dX8_best_75 : decode cX8_best 75 = .ok (.iload 7, 2) := by decide +kernel
theorem dX8_best_77 : decode cX8_best 77 = .ok (.iload 5, 2) := by decide +kernel
theorem dX8_best_79 : decode cX8_best 79 = .ok (.if_icmp .gt 6, 3) := by decide +kernel
theorem dX8_best_82 : decode cX8_best 82 = .ok (.goto 11, 3) := by decide +kernel
theorem dX8_best_85 : decode cX8_best 85 = .ok (.iload 7, 2) := by decide +kernel
theorem dX8_best_87 : decode cX8_best 87 = .ok (.istore 5, 2) := by decide +kernel
theorem dX8_best_89 : decode cX8_best 89 = .ok (.iload 6, 2) := by decide +kernel
theorem dX8_best_91 : decode cX8_best 91 = .ok (.istore 4, 2) := by decide +kernel
theorem dX8_best_93 : decode cX8_best 93 = .ok (.iinc 6 1, 3) := by decide +kernel
theorem dX8_best_96 : decode cX8_best 96 = .ok (.goto (-40), 3) := by decide +kernel
theorem dX8_best_99 : decode cX8_best 99 = .ok (.iload 4, 2) := by decide +kernel
theorem dX8_best_101 : decode cX8_best 101 = .ok (.i2l, 1) := by decide +kernel
theorem dX8_best_102 : decode cX8_best 102 = .ok (.lreturn, 1) := by decide +kernel
theorem dX8_quarrel_0 : decode cX8_quarrel 0 = .ok (.iload_n 1, 1) := by decide +kernel
theorem dX8_quarrel_1 : decode cX8_quarrel 1 = .ok (.invokestatic 187, 3) := by decide +kernel
theorem dX8_quarrel_4 : decode cX8_quarrel 4 = .ok (.ifCond .eq 10, 3) := by decide +kernel
theorem dX8_quarrel_7 : decode cX8_quarrel 7 = .ok (.iload_n 2, 1) := by decide +kernel
theorem dX8_quarrel_8 : decode cX8_quarrel 8 = .ok (.invokestatic 187, 3) := by decide +kernel
theorem dX8_quarrel_11 : decode cX8_quarrel 11 = .ok (.ifCond .ne 11, 3) := by decide +kernel
theorem dX8_quarrel_14 : decode cX8_quarrel 14 = .ok (.aload_n 0, 1) := by decide +kernel
theorem dX8_quarrel_15 : decode cX8_quarrel 15 = .ok (.ldc2_w 98, 3) := by decide +kernel
theorem dX8_quarrel_18 : decode cX8_quarrel 18 = .ok (.invokevirtual 100, 3) := by decide +kernel
theorem dX8_quarrel_21 : decode cX8_quarrel 21 = .ok (.lreturn, 1) := by decide +kernel
theorem dX8_quarrel_22 : decode cX8_quarrel 22 = .ok (.iconst 0, 1) := by decide +kernel
theorem dX8_quarrel_23 : decode cX8_quarrel 23 = .ok (.istore_n 3, 1) := by decide +kernel
theorem dX8_quarrel_24 : decode cX8_quarrel 24 = .ok (.iload_n 3, 1) := by decide +kernel
theorem dX8_quarrel_25 : decode cX8_quarrel 25 = .ok (.bipush 36, 2) := by decide +kernel
theorem dX8_quarrel_27 : decode cX8_quarrel 27 = .ok (.if_icmp .ge 55, 3) := by decide +kernel
theorem dX8_quarrel_30 : decode cX8_quarrel 30 = .ok (.aload_n 0, 1) := by decide +kernel
theorem dX8_quarrel_31 : decode cX8_quarrel 31 = .ok (.getfield 32, 3) := by decide +kernel
theorem dX8_quarrel_34 : decode cX8_quarrel 34 = .ok (.bipush 36, 2) := by decide +kernel
theorem dX8_quarrel_36 : decode cX8_quarrel 36 = .ok (.iload_n 1, 1) := by decide +kernel
theorem dX8_quarrel_37 : decode cX8_quarrel 37 = .ok (.imul, 1) := by decide +kernel
theorem dX8_quarrel_38 : decode cX8_quarrel 38 = .ok (.iload_n 3, 1) := by decide +kernel
theorem dX8_quarrel_39 : decode cX8_quarrel 39 = .ok (.iadd, 1) := by decide +kernel
theorem dX8_quarrel_40 : decode cX8_quarrel 40 = .ok (.iaload, 1) := by decide +kernel
theorem dX8_quarrel_41 : decode cX8_quarrel 41 = .ok (.istore 4, 2) := by decide +kernel
theorem dX8_quarrel_43 : decode cX8_quarrel 43 = .ok (.aload_n 0, 1) := by decide +kernel
theorem dX8_quarrel_44 : decode cX8_quarrel 44 = .ok (.getfield 32, 3) := by decide +kernel
theorem dX8_quarrel_47 : decode cX8_quarrel 47 = .ok (.bipush 36, 2) := by decide +kernel
theorem dX8_quarrel_49 : decode cX8_quarrel 49 = .ok (.iload_n 2, 1) := by decide +kernel
theorem dX8_quarrel_50 : decode cX8_quarrel 50 = .ok (.imul, 1) := by decide +kernel
theorem dX8_quarrel_51 : decode cX8_quarrel 51 = .ok (.iload_n 3, 1) := by decide +kernel
theorem dX8_quarrel_52 : decode cX8_quarrel 52 = .ok (.iadd, 1) := by decide +kernel
theorem dX8_quarrel_53 : decode cX8_quarrel 53 = .ok (.iaload, 1) := by decide +kernel
theorem dX8_quarrel_54 : decode cX8_quarrel 54 = .ok (.istore 5, 2) := by decide +kernel
theorem dX8_quarrel_56 : decode cX8_quarrel 56 = .ok (.iload 4, 2) := by decide +kernel
theorem dX8_quarrel_58 : decode cX8_quarrel 58 = .ok (.ifCond .lt 18, 3) := by decide +kernel
theorem dX8_quarrel_61 : decode cX8_quarrel 61 = .ok (.iload 5, 2) := by decide +kernel
theorem dX8_quarrel_63 : decode cX8_quarrel 63 = .ok (.ifCond .lt 13, 3) := by decide +kernel
theorem dX8_quarrel_66 : decode cX8_quarrel 66 = .ok (.iload 4, 2) := by decide +kernel
theorem dX8_quarrel_68 : decode cX8_quarrel 68 = .ok (.iload 5, 2) := by decide +kernel
theorem dX8_quarrel_70 : decode cX8_quarrel 70 = .ok (.if_icmp .eq 6, 3) := by decide +kernel
theorem dX8_quarrel_73 : decode cX8_quarrel 73 = .ok (.iload_n 3, 1) := by decide +kernel
theorem dX8_quarrel_74 : decode cX8_quarrel 74 = .ok (.i2l, 1) := by decide +kernel
theorem dX8_quarrel_75 : decode cX8_quarrel 75 = .ok (.lreturn, 1) := by decide +kernel
theorem dX8_quarrel_76 : decode cX8_quarrel 76 = .ok (.iinc 3 1, 3) := by decide +kernel
theorem dX8_quarrel_79 : decode cX8_quarrel 79 = .ok (.goto (-55), 3) := by decide +kernel
theorem dX8_quarrel_82 : decode cX8_quarrel 82 = .ok (.aload_n 0, 1) := by decide +kernel
theorem dX8_quarrel_83 : decode cX8_quarrel 83 = .ok (.ldc2_w 145, 3) := by decide +kernel
theorem dX8_quarrel_86 : decode cX8_quarrel 86 = .ok (.invokevirtual 100, 3) := by decide +kernel
theorem dX8_quarrel_89 : decode cX8_quarrel 89 = .ok (.lreturn, 1) := by decide +kernel
theorem dX8_count_0 : decode cX8_count 0 = .ok (.aload_n 0, 1) := by decide +kernel
theorem dX8_count_1 : decode cX8_count 1 = .ok (.iload_n 1, 1) := by decide +kernel
theorem dX8_count_2 : decode cX8_count 2 = .ok (.invokevirtual 106, 3) := by decide +kernel
theorem dX8_count_5 : decode cX8_count 5 = .ok (.ifCond .eq 22, 3) := by decide +kernel
theorem dX8_count_8 : decode cX8_count 8 = .ok (.iload_n 2, 1) := by decide +kernel
theorem dX8_count_9 : decode cX8_count 9 = .ok (.invokestatic 115, 3) := by decide +kernel
theorem dX8_count_12 : decode cX8_count 12 = .ok (.ifCond .eq 15, 3) := by decide +kernel
theorem dX8_count_15 : decode cX8_count 15 = .ok (.iload_n 3, 1) := by decide +kernel
theorem dX8_count_16 : decode cX8_count 16 = .ok (.i2l, 1) := by decide +kernel
theorem dX8_count_17 : decode cX8_count 17 = .ok (.lconst 0, 1) := by decide +kernel
theorem dX8_count_18 : decode cX8_count 18 = .ok (.ldc2_w 196, 3) := by decide +kernel
theorem dX8_count_21 : decode cX8_count 21 = .ok (.invokestatic 86, 3) := by decide +kernel
theorem dX8_count_24 : decode cX8_count 24 = .ok (.ifCond .ne 11, 3) := by decide +kernel
theorem dX8_count_27 : decode cX8_count 27 = .ok (.aload_n 0, 1) := by decide +kernel
theorem dX8_count_28 : decode cX8_count 28 = .ok (.ldc2_w 98, 3) := by decide +kernel
theorem dX8_count_31 : decode cX8_count 31 = .ok (.invokevirtual 100, 3) := by decide +kernel
theorem dX8_count_34 : decode cX8_count 34 = .ok (.lreturn, 1) := by decide +kernel
theorem dX8_count_35 : decode cX8_count 35 = .ok (.aload_n 0, 1) := by decide +kernel
theorem dX8_count_36 : decode cX8_count 36 = .ok (.iload_n 1, 1) := by decide +kernel
theorem dX8_count_37 : decode cX8_count 37 = .ok (.invokevirtual 118, 3) := by decide +kernel
theorem dX8_count_40 : decode cX8_count 40 = .ok (.ifCond .eq 11, 3) := by decide +kernel
theorem dX8_count_43 : decode cX8_count 43 = .ok (.aload_n 0, 1) := by decide +kernel
theorem dX8_count_44 : decode cX8_count 44 = .ok (.ldc2_w 110, 3) := by decide +kernel
theorem dX8_count_47 : decode cX8_count 47 = .ok (.invokevirtual 100, 3) := by decide +kernel
theorem dX8_count_50 : decode cX8_count 50 = .ok (.lreturn, 1) := by decide +kernel
theorem dX8_count_51 : decode cX8_count 51 = .ok (.aload_n 0, 1) := by decide +kernel
theorem dX8_count_52 : decode cX8_count 52 = .ok (.getfield 198, 3) := by decide +kernel
theorem dX8_count_55 : decode cX8_count 55 = .ok (.bipush 20, 2) := by decide +kernel
theorem dX8_count_57 : decode cX8_count 57 = .ok (.if_icmp .ne 11, 3) := by decide +kernel
theorem dX8_count_60 : decode cX8_count 60 = .ok (.aload_n 0, 1) := by decide +kernel
theorem dX8_count_61 : decode cX8_count 61 = .ok (.ldc2_w 104, 3) := by decide +kernel
theorem dX8_count_64 : decode cX8_count 64 = .ok (.invokevirtual 100, 3) := by decide +kernel
theorem dX8_count_67 : decode cX8_count 67 = .ok (.lreturn, 1) := by decide +kernel
theorem dX8_count_68 : decode cX8_count 68 = .ok (.aload_n 0, 1) := by decide +kernel
theorem dX8_count_69 : decode cX8_count 69 = .ok (.getfield 35, 3) := by decide +kernel
theorem dX8_count_72 : decode cX8_count 72 = .ok (.aload_n 0, 1) := by decide +kernel
theorem dX8_count_73 : decode cX8_count 73 = .ok (.getfield 198, 3) := by decide +kernel
theorem dX8_count_76 : decode cX8_count 76 = .ok (.iload_n 1, 1) := by decide +kernel
theorem dX8_count_77 : decode cX8_count 77 = .ok (.iastore, 1) := by decide +kernel
theorem dX8_count_78 : decode cX8_count 78 = .ok (.aload_n 0, 1) := by decide +kernel
theorem dX8_count_79 : decode cX8_count 79 = .ok (.getfield 38, 3) := by decide +kernel
theorem dX8_count_82 : decode cX8_count 82 = .ok (.aload_n 0, 1) := by decide +kernel
theorem dX8_count_83 : decode cX8_count 83 = .ok (.getfield 198, 3) := by decide +kernel
theorem dX8_count_86 : decode cX8_count 86 = .ok (.iload_n 2, 1) := by decide +kernel
theorem dX8_count_87 : decode cX8_count 87 = .ok (.iastore, 1) := by decide +kernel
theorem dX8_count_88 : decode cX8_count 88 = .ok (.aload_n 0, 1) := by decide +kernel
theorem dX8_count_89 : decode cX8_count 89 = .ok (.getfield 41, 3) := by decide +kernel
theorem dX8_count_92 : decode cX8_count 92 = .ok (.aload_n 0, 1) := by decide +kernel
theorem dX8_count_93 : decode cX8_count 93 = .ok (.getfield 198, 3) := by decide +kernel
theorem dX8_count_96 : decode cX8_count 96 = .ok (.iload_n 3, 1) := by decide +kernel
theorem dX8_count_97 : decode cX8_count 97 = .ok (.iastore, 1) := by decide +kernel
theorem dX8_count_98 : decode cX8_count 98 = .ok (.aload_n 0, 1) := by decide +kernel
theorem dX8_count_99 : decode cX8_count 99 = .ok (.dup, 1) := by decide +kernel
theorem dX8_count_100 : decode cX8_count 100 = .ok (.getfield 198, 3) := by decide +kernel
theorem dX8_count_103 : decode cX8_count 103 = .ok (.iconst 1, 1) := by decide +kernel
theorem dX8_count_104 : decode cX8_count 104 = .ok (.iadd, 1) := by decide +kernel
theorem dX8_count_105 : decode cX8_count 105 = .ok (.putfield 198, 3) := by decide +kernel
theorem dX8_count_108 : decode cX8_count 108 = .ok (.aload_n 0, 1) := by decide +kernel
theorem dX8_count_109 : decode cX8_count 109 = .ok (.getfield 198, 3) := by decide +kernel
theorem dX8_count_112 : decode cX8_count 112 = .ok (.i2l, 1) := by decide +kernel
theorem dX8_count_113 : decode cX8_count 113 = .ok (.lreturn, 1) := by decide +kernel
theorem dX8_latest_0 : decode cX8_latest 0 = .ok (.aload_n 0, 1) := by decide +kernel
theorem dX8_latest_1 : decode cX8_latest 1 = .ok (.getfield 198, 3) := by decide +kernel
theorem dX8_latest_4 : decode cX8_latest 4 = .ok (.iconst 1, 1) := by decide +kernel
theorem dX8_latest_5 : decode cX8_latest 5 = .ok (.isub, 1) := by decide +kernel
theorem dX8_latest_6 : decode cX8_latest 6 = .ok (.istore_n 3, 1) := by decide +kernel
theorem dX8_latest_7 : decode cX8_latest 7 = .ok (.iload_n 3, 1) := by decide +kernel
theorem dX8_latest_8 : decode cX8_latest 8 = .ok (.ifCond .lt 36, 3) := by decide +kernel
theorem dX8_latest_11 : decode cX8_latest 11 = .ok (.aload_n 0, 1) := by decide +kernel
theorem dX8_latest_12 : decode cX8_latest 12 = .ok (.getfield 35, 3) := by decide +kernel
theorem dX8_latest_15 : decode cX8_latest 15 = .ok (.iload_n 3, 1) := by decide +kernel
theorem dX8_latest_16 : decode cX8_latest 16 = .ok (.iaload, 1) := by decide +kernel
theorem dX8_latest_17 : decode cX8_latest 17 = .ok (.iload_n 1, 1) := by decide +kernel
theorem dX8_latest_18 : decode cX8_latest 18 = .ok (.if_icmp .ne 20, 3) := by decide +kernel
theorem dX8_latest_21 : decode cX8_latest 21 = .ok (.aload_n 0, 1) := by decide +kernel
theorem dX8_latest_22 : decode cX8_latest 22 = .ok (.getfield 38, 3) := by decide +kernel
theorem dX8_latest_25 : decode cX8_latest 25 = .ok (.iload_n 3, 1) := by decide +kernel
theorem dX8_latest_26 : decode cX8_latest 26 = .ok (.iaload, 1) := by decide +kernel
theorem dX8_latest_27 : decode cX8_latest 27 = .ok (.iload_n 2, 1) := by decide +kernel
theorem dX8_latest_28 : decode cX8_latest 28 = .ok (.if_icmp .ne 10, 3) := by decide +kernel
theorem dX8_latest_31 : decode cX8_latest 31 = .ok (.aload_n 0, 1) := by decide +kernel
theorem dX8_latest_32 : decode cX8_latest 32 = .ok (.getfield 41, 3) := by decide +kernel
theorem dX8_latest_35 : decode cX8_latest 35 = .ok (.iload_n 3, 1) := by decide +kernel
theorem dX8_latest_36 : decode cX8_latest 36 = .ok (.iaload, 1) := by decide +kernel
theorem dX8_latest_37 : decode cX8_latest 37 = .ok (.ireturn, 1) := by decide +kernel
theorem dX8_latest_38 : decode cX8_latest 38 = .ok (.iinc 3 (-1), 3) := by decide +kernel
theorem dX8_latest_41 : decode cX8_latest 41 = .ok (.goto (-34), 3) := by decide +kernel
theorem dX8_latest_44 : decode cX8_latest 44 = .ok (.iconst (-1), 1) := by decide +kernel
theorem dX8_latest_45 : decode cX8_latest 45 = .ok (.ireturn, 1) := by decide +kernel
theorem dX8_common_0 : decode cX8_common 0 = .ok (.lload_n 0, 1) := by decide +kernel
theorem dX8_common_1 : decode cX8_common 1 = .ok (.lstore 4, 2) := by decide +kernel
theorem dX8_common_3 : decode cX8_common 3 = .ok (.lload_n 2, 1) := by decide +kernel
theorem dX8_common_4 : decode cX8_common 4 = .ok (.lstore 6, 2) := by decide +kernel
theorem dX8_common_6 : decode cX8_common 6 = .ok (.lload 6, 2) := by decide +kernel
theorem dX8_common_8 : decode cX8_common 8 = .ok (.lconst 0, 1) := by decide +kernel
theorem dX8_common_9 : decode cX8_common 9 = .ok (.lcmp, 1) := by decide +kernel
theorem dX8_common_10 : decode cX8_common 10 = .ok (.ifCond .eq 21, 3) := by decide +kernel
theorem dX8_common_13 : decode cX8_common 13 = .ok (.lload 4, 2) := by decide +kernel
theorem dX8_common_15 : decode cX8_common 15 = .ok (.lload 6, 2) := by decide +kernel
theorem dX8_common_17 : decode cX8_common 17 = .ok (.lrem, 1) := by decide +kernel
theorem dX8_common_18 : decode cX8_common 18 = .ok (.lstore 8, 2) := by decide +kernel
theorem dX8_common_20 : decode cX8_common 20 = .ok (.lload 6, 2) := by decide +kernel
theorem dX8_common_22 : decode cX8_common 22 = .ok (.lstore 4, 2) := by decide +kernel
theorem dX8_common_24 : decode cX8_common 24 = .ok (.lload 8, 2) := by decide +kernel
theorem dX8_common_26 : decode cX8_common 26 = .ok (.lstore 6, 2) := by decide +kernel
theorem dX8_common_28 : decode cX8_common 28 = .ok (.goto (-22), 3) := by decide +kernel
theorem dX8_common_31 : decode cX8_common 31 = .ok (.lload 4, 2) := by decide +kernel
theorem dX8_common_33 : decode cX8_common 33 = .ok (.lreturn, 1) := by decide +kernel
theorem dX8_carried_0 : decode cX8_carried 0 = .ok (.iload_n 1, 1) := by decide +kernel
theorem dX8_carried_1 : decode cX8_carried 1 = .ok (.invokestatic 115, 3) := by decide +kernel
theorem dX8_carried_4 : decode cX8_carried 4 = .ok (.ifCond .eq 18, 3) := by decide +kernel
theorem dX8_carried_7 : decode cX8_carried 7 = .ok (.aload_n 0, 1) := by decide +kernel
theorem dX8_carried_8 : decode cX8_carried 8 = .ok (.iload_n 2, 1) := by decide +kernel
theorem dX8_carried_9 : decode cX8_carried 9 = .ok (.invokevirtual 106, 3) := by decide +kernel
theorem dX8_carried_12 : decode cX8_carried 12 = .ok (.ifCond .eq 10, 3) := by decide +kernel
theorem dX8_carried_15 : decode cX8_carried 15 = .ok (.iload_n 3, 1) := by decide +kernel
theorem dX8_carried_16 : decode cX8_carried 16 = .ok (.invokestatic 115, 3) := by decide +kernel
theorem dX8_carried_19 : decode cX8_carried 19 = .ok (.ifCond .ne 11, 3) := by decide +kernel
theorem dX8_carried_22 : decode cX8_carried 22 = .ok (.aload_n 0, 1) := by decide +kernel
theorem dX8_carried_23 : decode cX8_carried 23 = .ok (.ldc2_w 98, 3) := by decide +kernel
theorem dX8_carried_26 : decode cX8_carried 26 = .ok (.invokevirtual 100, 3) := by decide +kernel
theorem dX8_carried_29 : decode cX8_carried 29 = .ok (.lreturn, 1) := by decide +kernel
theorem dX8_carried_30 : decode cX8_carried 30 = .ok (.aload_n 0, 1) := by decide +kernel
theorem dX8_carried_31 : decode cX8_carried 31 = .ok (.invokevirtual 142, 3) := by decide +kernel
theorem dX8_carried_34 : decode cX8_carried 34 = .ok (.aload_n 0, 1) := by decide +kernel
theorem dX8_carried_35 : decode cX8_carried 35 = .ok (.iload_n 2, 1) := by decide +kernel
theorem dX8_carried_36 : decode cX8_carried 36 = .ok (.aload_n 0, 1) := by decide +kernel
theorem dX8_carried_37 : decode cX8_carried 37 = .ok (.iload_n 3, 1) := by decide +kernel
theorem dX8_carried_38 : decode cX8_carried 38 = .ok (.invokevirtual 150, 3) := by decide +kernel
theorem dX8_carried_41 : decode cX8_carried 41 = .ok (.invokevirtual 154, 3) := by decide +kernel
theorem dX8_carried_44 : decode cX8_carried 44 = .ok (.lstore 5, 2) := by decide +kernel
theorem dX8_carried_46 : decode cX8_carried 46 = .ok (.lconst 0, 1) := by decide +kernel
theorem dX8_carried_47 : decode cX8_carried 47 = .ok (.lstore 7, 2) := by decide +kernel
theorem dX8_carried_49 : decode cX8_carried 49 = .ok (.lconst 1, 1) := by decide +kernel
theorem dX8_carried_50 : decode cX8_carried 50 = .ok (.lstore 9, 2) := by decide +kernel
theorem dX8_carried_52 : decode cX8_carried 52 = .ok (.iconst 0, 1) := by decide +kernel
theorem dX8_carried_53 : decode cX8_carried 53 = .ok (.istore 11, 2) := by decide +kernel
theorem dX8_carried_55 : decode cX8_carried 55 = .ok (.iload 11, 2) := by decide +kernel
theorem dX8_carried_57 : decode cX8_carried 57 = .ok (.aload_n 0, 1) := by decide +kernel
theorem dX8_carried_58 : decode cX8_carried 58 = .ok (.getfield 82, 3) := by decide +kernel
theorem dX8_carried_61 : decode cX8_carried 61 = .ok (.if_icmp .ge 121, 3) := by decide +kernel
theorem dX8_carried_64 : decode cX8_carried 64 = .ok (.aload_n 0, 1) := by decide +kernel
theorem dX8_carried_65 : decode cX8_carried 65 = .ok (.iload 11, 2) := by decide +kernel
theorem dX8_carried_67 : decode cX8_carried 67 = .ok (.iload_n 1, 1) := by decide +kernel
theorem dX8_carried_68 : decode cX8_carried 68 = .ok (.invokevirtual 201, 3) := by decide +kernel
theorem dX8_carried_71 : decode cX8_carried 71 = .ok (.istore 12, 2) := by decide +kernel
theorem dX8_carried_73 : decode cX8_carried 73 = .ok (.aload_n 0, 1) := by decide +kernel
theorem dX8_carried_74 : decode cX8_carried 74 = .ok (.iload 11, 2) := by decide +kernel
theorem dX8_carried_76 : decode cX8_carried 76 = .ok (.aload_n 0, 1) := by decide +kernel
theorem dX8_carried_77 : decode cX8_carried 77 = .ok (.iload_n 1, 1) := by decide +kernel
theorem dX8_carried_78 : decode cX8_carried 78 = .ok (.invokevirtual 150, 3) := by decide +kernel
theorem dX8_carried_81 : decode cX8_carried 81 = .ok (.invokevirtual 154, 3) := by decide +kernel
theorem dX8_carried_84 : decode cX8_carried 84 = .ok (.lstore 13, 2) := by decide +kernel
theorem dX8_carried_86 : decode cX8_carried 86 = .ok (.iload 12, 2) := by decide +kernel
theorem dX8_carried_88 : decode cX8_carried 88 = .ok (.ifCond .lt 88, 3) := by decide +kernel
theorem dX8_carried_91 : decode cX8_carried 91 = .ok (.aload_n 0, 1) := by decide +kernel
theorem dX8_carried_92 : decode cX8_carried 92 = .ok (.iload 11, 2) := by decide +kernel
theorem dX8_carried_94 : decode cX8_carried 94 = .ok (.invokevirtual 118, 3) := by decide +kernel
theorem dX8_carried_97 : decode cX8_carried 97 = .ok (.ifCond .ne 79, 3) := by decide +kernel
theorem dX8_carried_100 : decode cX8_carried 100 = .ok (.lload 13, 2) := by decide +kernel
theorem dX8_carried_102 : decode cX8_carried 102 = .ok (.lconst 0, 1) := by decide +kernel
theorem dX8_carried_103 : decode cX8_carried 103 = .ok (.lcmp, 1) := by decide +kernel
theorem dX8_carried_104 : decode cX8_carried 104 = .ok (.ifCond .ne 6, 3) := by decide +kernel
theorem dX8_carried_107 : decode cX8_carried 107 = .ok (.goto 69, 3) := by decide +kernel
theorem dX8_carried_110 : decode cX8_carried 110 = .ok (.iload 12, 2) := by decide +kernel
theorem dX8_carried_112 : decode cX8_carried 112 = .ok (.i2l, 1) := by decide +kernel
theorem dX8_carried_113 : decode cX8_carried 113 = .ok (.lload 13, 2) := by decide +kernel
theorem dX8_carried_115 : decode cX8_carried 115 = .ok (.lload 5, 2) := by decide +kernel
theorem dX8_carried_117 : decode cX8_carried 117 = .ok (.land, 1) := by decide +kernel
theorem dX8_carried_118 : decode cX8_carried 118 = .ok (.invokestatic 170, 3) := by decide +kernel
theorem dX8_carried_121 : decode cX8_carried 121 = .ok (.i2l, 1) := by decide +kernel
theorem dX8_carried_122 : decode cX8_carried 122 = .ok (.lmul, 1) := by decide +kernel
theorem dX8_carried_123 : decode cX8_carried 123 = .ok (.lstore 15, 2) := by decide +kernel
theorem dX8_carried_125 : decode cX8_carried 125 = .ok (.lload 13, 2) := by decide +kernel
theorem dX8_carried_127 : decode cX8_carried 127 = .ok (.invokestatic 170, 3) := by decide +kernel
theorem dX8_carried_130 : decode cX8_carried 130 = .ok (.i2l, 1) := by decide +kernel
theorem dX8_carried_131 : decode cX8_carried 131 = .ok (.lstore 17, 2) := by decide +kernel
theorem dX8_carried_133 : decode cX8_carried 133 = .ok (.lload 7, 2) := by decide +kernel
theorem dX8_carried_135 : decode cX8_carried 135 = .ok (.lload 17, 2) := by decide +kernel
theorem dX8_carried_137 : decode cX8_carried 137 = .ok (.lmul, 1) := by decide +kernel
theorem dX8_carried_138 : decode cX8_carried 138 = .ok (.lload 15, 2) := by decide +kernel
theorem dX8_carried_140 : decode cX8_carried 140 = .ok (.lload 9, 2) := by decide +kernel
theorem dX8_carried_142 : decode cX8_carried 142 = .ok (.lmul, 1) := by decide +kernel
theorem dX8_carried_143 : decode cX8_carried 143 = .ok (.ladd, 1) := by decide +kernel
theorem dX8_carried_144 : decode cX8_carried 144 = .ok (.lstore 7, 2) := by decide +kernel
theorem dX8_carried_146 : decode cX8_carried 146 = .ok (.lload 9, 2) := by decide +kernel
theorem dX8_carried_148 : decode cX8_carried 148 = .ok (.lload 17, 2) := by decide +kernel
theorem dX8_carried_150 : decode cX8_carried 150 = .ok (.lmul, 1) := by decide +kernel
theorem dX8_carried_151 : decode cX8_carried 151 = .ok (.lstore 9, 2) := by decide +kernel
theorem dX8_carried_153 : decode cX8_carried 153 = .ok (.lload 7, 2) := by decide +kernel
theorem dX8_carried_155 : decode cX8_carried 155 = .ok (.lload 9, 2) := by decide +kernel
theorem dX8_carried_157 : decode cX8_carried 157 = .ok (.invokestatic 204, 3) := by decide +kernel
theorem dX8_carried_160 : decode cX8_carried 160 = .ok (.lstore 19, 2) := by decide +kernel
theorem dX8_carried_162 : decode cX8_carried 162 = .ok (.lload 7, 2) := by decide +kernel
theorem dX8_carried_164 : decode cX8_carried 164 = .ok (.lload 19, 2) := by decide +kernel
theorem dX8_carried_166 : decode cX8_carried 166 = .ok (.ldiv, 1) := by decide +kernel
theorem dX8_carried_167 : decode cX8_carried 167 = .ok (.lstore 7, 2) := by decide +kernel
theorem dX8_carried_169 : decode cX8_carried 169 = .ok (.lload 9, 2) := by decide +kernel
theorem dX8_carried_171 : decode cX8_carried 171 = .ok (.lload 19, 2) := by decide +kernel
theorem dX8_carried_173 : decode cX8_carried 173 = .ok (.ldiv, 1) := by decide +kernel
theorem dX8_carried_174 : decode cX8_carried 174 = .ok (.lstore 9, 2) := by decide +kernel
theorem dX8_carried_176 : decode cX8_carried 176 = .ok (.iinc 11 1, 3) := by decide +kernel
theorem dX8_carried_179 : decode cX8_carried 179 = .ok (.goto (-124), 3) := by decide +kernel
theorem dX8_carried_182 : decode cX8_carried 182 = .ok (.iload 4, 2) := by decide +kernel
theorem dX8_carried_184 : decode cX8_carried 184 = .ok (.ifCond .eq 8, 3) := by decide +kernel
theorem dX8_carried_187 : decode cX8_carried 187 = .ok (.lload 9, 2) := by decide +kernel
theorem dX8_carried_189 : decode cX8_carried 189 = .ok (.goto 5, 3) := by decide +kernel
theorem dX8_carried_192 : decode cX8_carried 192 = .ok (.lload 7, 2) := by decide +kernel
theorem dX8_carried_194 : decode cX8_carried 194 = .ok (.lreturn, 1) := by decide +kernel
theorem dX8_people_0 : decode cX8_people 0 = .ok (.iload_n 1, 1) := by decide +kernel
theorem dX8_people_1 : decode cX8_people 1 = .ok (.invokestatic 115, 3) := by decide +kernel
theorem dX8_people_4 : decode cX8_people 4 = .ok (.ifCond .ne 11, 3) := by decide +kernel
theorem dX8_people_7 : decode cX8_people 7 = .ok (.aload_n 0, 1) := by decide +kernel
theorem dX8_people_8 : decode cX8_people 8 = .ok (.ldc2_w 98, 3) := by decide +kernel
theorem dX8_people_11 : decode cX8_people 11 = .ok (.invokevirtual 100, 3) := by decide +kernel
theorem dX8_people_14 : decode cX8_people 14 = .ok (.lreturn, 1) := by decide +kernel
theorem dX8_people_15 : decode cX8_people 15 = .ok (.lconst 0, 1) := by decide +kernel
theorem dX8_people_16 : decode cX8_people 16 = .ok (.lstore_n 2, 1) := by decide +kernel
theorem dX8_people_17 : decode cX8_people 17 = .ok (.iconst 0, 1) := by decide +kernel
theorem dX8_people_18 : decode cX8_people 18 = .ok (.istore 4, 2) := by decide +kernel
theorem dX8_people_20 : decode cX8_people 20 = .ok (.iload 4, 2) := by decide +kernel
theorem dX8_people_22 : decode cX8_people 22 = .ok (.aload_n 0, 1) := by decide +kernel
theorem dX8_people_23 : decode cX8_people 23 = .ok (.getfield 82, 3) := by decide +kernel
theorem dX8_people_26 : decode cX8_people 26 = .ok (.if_icmp .ge 34, 3) := by decide +kernel
theorem dX8_people_29 : decode cX8_people 29 = .ok (.lload_n 2, 1) := by decide +kernel
theorem dX8_people_30 : decode cX8_people 30 = .ok (.aload_n 0, 1) := by decide +kernel
theorem dX8_people_31 : decode cX8_people 31 = .ok (.iload 4, 2) := by decide +kernel
theorem dX8_people_33 : decode cX8_people 33 = .ok (.iload_n 1, 1) := by decide +kernel
theorem dX8_people_34 : decode cX8_people 34 = .ok (.invokevirtual 201, 3) := by decide +kernel
theorem dX8_people_37 : decode cX8_people 37 = .ok (.ifCond .ge 7, 3) := by decide +kernel
theorem dX8_people_40 : decode cX8_people 40 = .ok (.lconst 0, 1) := by decide +kernel
theorem dX8_people_41 : decode cX8_people 41 = .ok (.goto 11, 3) := by decide +kernel
theorem dX8_people_44 : decode cX8_people 44 = .ok (.aload_n 0, 1) := by decide +kernel
theorem dX8_people_45 : decode cX8_people 45 = .ok (.iload 4, 2) := by decide +kernel
theorem dX8_people_47 : decode cX8_people 47 = .ok (.iload_n 1, 1) := by decide +kernel
theorem dX8_people_48 : decode cX8_people 48 = .ok (.invokevirtual 201, 3) := by decide +kernel
theorem dX8_people_51 : decode cX8_people 51 = .ok (.i2l, 1) := by decide +kernel
theorem dX8_people_52 : decode cX8_people 52 = .ok (.ladd, 1) := by decide +kernel
theorem dX8_people_53 : decode cX8_people 53 = .ok (.lstore_n 2, 1) := by decide +kernel
theorem dX8_people_54 : decode cX8_people 54 = .ok (.iinc 4 1, 3) := by decide +kernel
theorem dX8_people_57 : decode cX8_people 57 = .ok (.goto (-37), 3) := by decide +kernel
theorem dX8_people_60 : decode cX8_people 60 = .ok (.lload_n 2, 1) := by decide +kernel
theorem dX8_people_61 : decode cX8_people 61 = .ok (.lreturn, 1) := by decide +kernel
theorem dX8_isSheet_0 : decode cX8_isSheet 0 = .ok (.iload_n 0, 1) := by decide +kernel
theorem dX8_isSheet_1 : decode cX8_isSheet 1 = .ok (.i2l, 1) := by decide +kernel
theorem dX8_isSheet_2 : decode cX8_isSheet 2 = .ok (.lconst 0, 1) := by decide +kernel
theorem dX8_isSheet_3 : decode cX8_isSheet 3 = .ok (.ldc2_w 96, 3) := by decide +kernel
theorem dX8_isSheet_6 : decode cX8_isSheet 6 = .ok (.invokestatic 86, 3) := by decide +kernel
theorem dX8_isSheet_9 : decode cX8_isSheet 9 = .ok (.ireturn, 1) := by decide +kernel
theorem dX8_sheet_0 : decode cX8_sheet 0 = .ok (.iload_n 1, 1) := by decide +kernel
theorem dX8_sheet_1 : decode cX8_sheet 1 = .ok (.invokestatic 208, 3) := by decide +kernel
theorem dX8_sheet_4 : decode cX8_sheet 4 = .ok (.ifCond .eq 25, 3) := by decide +kernel
theorem dX8_sheet_7 : decode cX8_sheet 7 = .ok (.iload_n 2, 1) := by decide +kernel
theorem dX8_sheet_8 : decode cX8_sheet 8 = .ok (.ifCond .eq 29, 3) := by decide +kernel
theorem dX8_sheet_11 : decode cX8_sheet 11 = .ok (.iload_n 2, 1) := by decide +kernel
theorem dX8_sheet_12 : decode cX8_sheet 12 = .ok (.bipush 8, 2) := by decide +kernel
theorem dX8_sheet_14 : decode cX8_sheet 14 = .ok (.if_icmp .eq 23, 3) := by decide +kernel
theorem dX8_sheet_17 : decode cX8_sheet 17 = .ok (.iload_n 2, 1) := by decide +kernel
theorem dX8_sheet_18 : decode cX8_sheet 18 = .ok (.bipush 16, 2) := by decide +kernel
theorem dX8_sheet_20 : decode cX8_sheet 20 = .ok (.if_icmp .eq 17, 3) := by decide +kernel
theorem dX8_sheet_23 : decode cX8_sheet 23 = .ok (.iload_n 2, 1) := by decide +kernel
theorem dX8_sheet_24 : decode cX8_sheet 24 = .ok (.bipush 32, 2) := by decide +kernel
theorem dX8_sheet_26 : decode cX8_sheet 26 = .ok (.if_icmp .eq 11, 3) := by decide +kernel
theorem dX8_sheet_29 : decode cX8_sheet 29 = .ok (.aload_n 0, 1) := by decide +kernel
theorem dX8_sheet_30 : decode cX8_sheet 30 = .ok (.ldc2_w 98, 3) := by decide +kernel
theorem dX8_sheet_33 : decode cX8_sheet 33 = .ok (.invokevirtual 100, 3) := by decide +kernel
theorem dX8_sheet_36 : decode cX8_sheet 36 = .ok (.lreturn, 1) := by decide +kernel
theorem dX8_sheet_37 : decode cX8_sheet 37 = .ok (.iload_n 3, 1) := by decide +kernel
theorem dX8_sheet_38 : decode cX8_sheet 38 = .ok (.ifCond .ge 11, 3) := by decide +kernel
theorem dX8_sheet_41 : decode cX8_sheet 41 = .ok (.aload_n 0, 1) := by decide +kernel
theorem dX8_sheet_42 : decode cX8_sheet 42 = .ok (.ldc2_w 125, 3) := by decide +kernel
theorem dX8_sheet_45 : decode cX8_sheet 45 = .ok (.invokevirtual 100, 3) := by decide +kernel
theorem dX8_sheet_48 : decode cX8_sheet 48 = .ok (.lreturn, 1) := by decide +kernel
theorem dX8_sheet_49 : decode cX8_sheet 49 = .ok (.iload_n 3, 1) := by decide +kernel
theorem dX8_sheet_50 : decode cX8_sheet 50 = .ok (.bipush 36, 2) := by decide +kernel
theorem dX8_sheet_52 : decode cX8_sheet 52 = .ok (.if_icmp .le 11, 3) := by decide +kernel
theorem dX8_sheet_55 : decode cX8_sheet 55 = .ok (.aload_n 0, 1) := by decide +kernel
theorem dX8_sheet_56 : decode cX8_sheet 56 = .ok (.ldc2_w 98, 3) := by decide +kernel
theorem dX8_sheet_59 : decode cX8_sheet 59 = .ok (.invokevirtual 100, 3) := by decide +kernel
theorem dX8_sheet_62 : decode cX8_sheet 62 = .ok (.lreturn, 1) := by decide +kernel
theorem dX8_sheet_63 : decode cX8_sheet 63 = .ok (.aload_n 0, 1) := by decide +kernel
theorem dX8_sheet_64 : decode cX8_sheet 64 = .ok (.getfield 44, 3) := by decide +kernel
theorem dX8_sheet_67 : decode cX8_sheet 67 = .ok (.iload_n 1, 1) := by decide +kernel
theorem dX8_sheet_68 : decode cX8_sheet 68 = .ok (.iload_n 2, 1) := by decide +kernel
theorem dX8_sheet_69 : decode cX8_sheet 69 = .ok (.iastore, 1) := by decide +kernel
theorem dX8_sheet_70 : decode cX8_sheet 70 = .ok (.aload_n 0, 1) := by decide +kernel
theorem dX8_sheet_71 : decode cX8_sheet 71 = .ok (.getfield 47, 3) := by decide +kernel
theorem dX8_sheet_74 : decode cX8_sheet 74 = .ok (.iload_n 1, 1) := by decide +kernel
theorem dX8_sheet_75 : decode cX8_sheet 75 = .ok (.iload_n 2, 1) := by decide +kernel
theorem dX8_sheet_76 : decode cX8_sheet 76 = .ok (.ifCond .ne 7, 3) := by decide +kernel
theorem dX8_sheet_79 : decode cX8_sheet 79 = .ok (.iconst 0, 1) := by decide +kernel
theorem dX8_sheet_80 : decode cX8_sheet 80 = .ok (.goto 4, 3) := by decide +kernel
theorem dX8_sheet_83 : decode cX8_sheet 83 = .ok (.iload_n 3, 1) := by decide +kernel
theorem dX8_sheet_84 : decode cX8_sheet 84 = .ok (.iastore, 1) := by decide +kernel
theorem dX8_sheet_85 : decode cX8_sheet 85 = .ok (.iconst 0, 1) := by decide +kernel
theorem dX8_sheet_86 : decode cX8_sheet 86 = .ok (.istore 4, 2) := by decide +kernel
theorem dX8_sheet_88 : decode cX8_sheet 88 = .ok (.iload 4, 2) := by decide +kernel
theorem dX8_sheet_90 : decode cX8_sheet 90 = .ok (.bipush 36, 2) := by decide +kernel
theorem dX8_sheet_92 : decode cX8_sheet 92 = .ok (.if_icmp .ge 22, 3) := by decide +kernel
theorem dX8_sheet_95 : decode cX8_sheet 95 = .ok (.aload_n 0, 1) := by decide +kernel
theorem dX8_sheet_96 : decode cX8_sheet 96 = .ok (.getfield 50, 3) := by decide +kernel
theorem dX8_sheet_99 : decode cX8_sheet 99 = .ok (.bipush 36, 2) := by decide +kernel
theorem dX8_sheet_101 : decode cX8_sheet 101 = .ok (.iload_n 1, 1) := by decide +kernel
theorem dX8_sheet_102 : decode cX8_sheet 102 = .ok (.imul, 1) := by decide +kernel
theorem dX8_sheet_103 : decode cX8_sheet 103 = .ok (.iload 4, 2) := by decide +kernel
theorem dX8_sheet_105 : decode cX8_sheet 105 = .ok (.iadd, 1) := by decide +kernel
theorem dX8_sheet_106 : decode cX8_sheet 106 = .ok (.iconst 0, 1) := by decide +kernel
theorem dX8_sheet_107 : decode cX8_sheet 107 = .ok (.iastore, 1) := by decide +kernel
theorem dX8_sheet_108 : decode cX8_sheet 108 = .ok (.iinc 4 1, 3) := by decide +kernel
theorem dX8_sheet_111 : decode cX8_sheet 111 = .ok (.goto (-23), 3) := by decide +kernel
theorem dX8_sheet_114 : decode cX8_sheet 114 = .ok (.aload_n 0, 1) := by decide +kernel
theorem dX8_sheet_115 : decode cX8_sheet 115 = .ok (.getfield 47, 3) := by decide +kernel
theorem dX8_sheet_118 : decode cX8_sheet 118 = .ok (.iload_n 1, 1) := by decide +kernel
theorem dX8_sheet_119 : decode cX8_sheet 119 = .ok (.iaload, 1) := by decide +kernel
theorem dX8_sheet_120 : decode cX8_sheet 120 = .ok (.i2l, 1) := by decide +kernel
theorem dX8_sheet_121 : decode cX8_sheet 121 = .ok (.lreturn, 1) := by decide +kernel
theorem dX8_put_0 : decode cX8_put 0 = .ok (.iload_n 1, 1) := by decide +kernel
theorem dX8_put_1 : decode cX8_put 1 = .ok (.invokestatic 208, 3) := by decide +kernel
theorem dX8_put_4 : decode cX8_put 4 = .ok (.ifCond .ne 11, 3) := by decide +kernel
theorem dX8_put_7 : decode cX8_put 7 = .ok (.aload_n 0, 1) := by decide +kernel
theorem dX8_put_8 : decode cX8_put 8 = .ok (.ldc2_w 98, 3) := by decide +kernel
theorem dX8_put_11 : decode cX8_put 11 = .ok (.invokevirtual 100, 3) := by decide +kernel
theorem dX8_put_14 : decode cX8_put 14 = .ok (.lreturn, 1) := by decide +kernel
theorem dX8_put_15 : decode cX8_put 15 = .ok (.aload_n 0, 1) := by decide +kernel
theorem dX8_put_16 : decode cX8_put 16 = .ok (.getfield 44, 3) := by decide +kernel
theorem dX8_put_19 : decode cX8_put 19 = .ok (.iload_n 1, 1) := by decide +kernel
theorem dX8_put_20 : decode cX8_put 20 = .ok (.iaload, 1) := by decide +kernel
theorem dX8_put_21 : decode cX8_put 21 = .ok (.ifCond .ne 11, 3) := by decide +kernel
theorem dX8_put_24 : decode cX8_put 24 = .ok (.aload_n 0, 1) := by decide +kernel
theorem dX8_put_25 : decode cX8_put 25 = .ok (.ldc2_w 211, 3) := by decide +kernel
theorem dX8_put_28 : decode cX8_put 28 = .ok (.invokevirtual 100, 3) := by decide +kernel
theorem dX8_put_31 : decode cX8_put 31 = .ok (.lreturn, 1) := by decide +kernel
theorem dX8_put_32 : decode cX8_put 32 = .ok (.iload_n 2, 1) := by decide +kernel
theorem dX8_put_33 : decode cX8_put 33 = .ok (.i2l, 1) := by decide +kernel
theorem dX8_put_34 : decode cX8_put 34 = .ok (.lconst 0, 1) := by decide +kernel
theorem dX8_put_35 : decode cX8_put 35 = .ok (.aload_n 0, 1) := by decide +kernel
theorem dX8_put_36 : decode cX8_put 36 = .ok (.getfield 47, 3) := by decide +kernel
theorem dX8_put_39 : decode cX8_put 39 = .ok (.iload_n 1, 1) := by decide +kernel
theorem dX8_put_40 : decode cX8_put 40 = .ok (.iaload, 1) := by decide +kernel
theorem dX8_put_41 : decode cX8_put 41 = .ok (.iconst 1, 1) := by decide +kernel
theorem dX8_put_42 : decode cX8_put 42 = .ok (.isub, 1) := by decide +kernel
theorem dX8_put_43 : decode cX8_put 43 = .ok (.i2l, 1) := by decide +kernel
theorem dX8_put_44 : decode cX8_put 44 = .ok (.invokestatic 86, 3) := by decide +kernel
theorem dX8_put_47 : decode cX8_put 47 = .ok (.ifCond .ne 11, 3) := by decide +kernel
theorem dX8_put_50 : decode cX8_put 50 = .ok (.aload_n 0, 1) := by decide +kernel
theorem dX8_put_51 : decode cX8_put 51 = .ok (.ldc2_w 98, 3) := by decide +kernel
theorem dX8_put_54 : decode cX8_put 54 = .ok (.invokevirtual 100, 3) := by decide +kernel
theorem dX8_put_57 : decode cX8_put 57 = .ok (.lreturn, 1) := by decide +kernel
theorem dX8_put_58 : decode cX8_put 58 = .ok (.aload_n 0, 1) := by decide +kernel
theorem dX8_put_59 : decode cX8_put 59 = .ok (.getfield 50, 3) := by decide +kernel
theorem dX8_put_62 : decode cX8_put 62 = .ok (.bipush 36, 2) := by decide +kernel
theorem dX8_put_64 : decode cX8_put 64 = .ok (.iload_n 1, 1) := by decide +kernel
theorem dX8_put_65 : decode cX8_put 65 = .ok (.imul, 1) := by decide +kernel
theorem dX8_put_66 : decode cX8_put 66 = .ok (.iload_n 2, 1) := by decide +kernel
theorem dX8_put_67 : decode cX8_put 67 = .ok (.iadd, 1) := by decide +kernel
theorem dX8_put_68 : decode cX8_put 68 = .ok (.aload_n 0, 1) := by decide +kernel
theorem dX8_put_69 : decode cX8_put 69 = .ok (.getfield 44, 3) := by decide +kernel
theorem dX8_put_72 : decode cX8_put 72 = .ok (.iload_n 1, 1) := by decide +kernel
theorem dX8_put_73 : decode cX8_put 73 = .ok (.iaload, 1) := by decide +kernel
theorem dX8_put_74 : decode cX8_put 74 = .ok (.bipush 8, 2) := by decide +kernel
theorem dX8_put_76 : decode cX8_put 76 = .ok (.if_icmp .ne 8, 3) := by decide +kernel
theorem dX8_put_79 : decode cX8_put 79 = .ok (.iload_n 3, 1) := by decide +kernel
theorem dX8_put_80 : decode cX8_put 80 = .ok (.i2b, 1) := by decide +kernel
theorem dX8_put_81 : decode cX8_put 81 = .ok (.goto 20, 3) := by decide +kernel
theorem dX8_put_84 : decode cX8_put 84 = .ok (.aload_n 0, 1) := by decide +kernel
theorem dX8_put_85 : decode cX8_put 85 = .ok (.getfield 44, 3) := by decide +kernel
theorem dX8_put_88 : decode cX8_put 88 = .ok (.iload_n 1, 1) := by decide +kernel
theorem dX8_put_89 : decode cX8_put 89 = .ok (.iaload, 1) := by decide +kernel
theorem dX8_put_90 : decode cX8_put 90 = .ok (.bipush 16, 2) := by decide +kernel
theorem dX8_put_92 : decode cX8_put 92 = .ok (.if_icmp .ne 8, 3) := by decide +kernel
theorem dX8_put_95 : decode cX8_put 95 = .ok (.iload_n 3, 1) := by decide +kernel
theorem dX8_put_96 : decode cX8_put 96 = .ok (.i2s, 1) := by decide +kernel
theorem dX8_put_97 : decode cX8_put 97 = .ok (.goto 4, 3) := by decide +kernel
theorem dX8_put_100 : decode cX8_put 100 = .ok (.iload_n 3, 1) := by decide +kernel
theorem dX8_put_101 : decode cX8_put 101 = .ok (.iastore, 1) := by decide +kernel
theorem dX8_put_102 : decode cX8_put 102 = .ok (.lconst 0, 1) := by decide +kernel
theorem dX8_put_103 : decode cX8_put 103 = .ok (.lreturn, 1) := by decide +kernel
theorem dX8_copy_0 : decode cX8_copy 0 = .ok (.iload_n 1, 1) := by decide +kernel
theorem dX8_copy_1 : decode cX8_copy 1 = .ok (.invokestatic 208, 3) := by decide +kernel
theorem dX8_copy_4 : decode cX8_copy 4 = .ok (.ifCond .eq 10, 3) := by decide +kernel
theorem dX8_copy_7 : decode cX8_copy 7 = .ok (.iload_n 3, 1) := by decide +kernel
theorem dX8_copy_8 : decode cX8_copy 8 = .ok (.invokestatic 208, 3) := by decide +kernel
theorem dX8_copy_11 : decode cX8_copy 11 = .ok (.ifCond .ne 11, 3) := by decide +kernel
theorem dX8_copy_14 : decode cX8_copy 14 = .ok (.aload_n 0, 1) := by decide +kernel
theorem dX8_copy_15 : decode cX8_copy 15 = .ok (.ldc2_w 98, 3) := by decide +kernel
theorem dX8_copy_18 : decode cX8_copy 18 = .ok (.invokevirtual 100, 3) := by decide +kernel
theorem dX8_copy_21 : decode cX8_copy 21 = .ok (.lreturn, 1) := by decide +kernel
theorem dX8_copy_22 : decode cX8_copy 22 = .ok (.aload_n 0, 1) := by decide +kernel
theorem dX8_copy_23 : decode cX8_copy 23 = .ok (.getfield 44, 3) := by decide +kernel
theorem dX8_copy_26 : decode cX8_copy 26 = .ok (.iload_n 1, 1) := by decide +kernel
theorem dX8_copy_27 : decode cX8_copy 27 = .ok (.iaload, 1) := by decide +kernel
theorem dX8_copy_28 : decode cX8_copy 28 = .ok (.ifCond .eq 12, 3) := by decide +kernel
theorem dX8_copy_31 : decode cX8_copy 31 = .ok (.aload_n 0, 1) := by decide +kernel
theorem dX8_copy_32 : decode cX8_copy 32 = .ok (.getfield 44, 3) := by decide +kernel
theorem dX8_copy_35 : decode cX8_copy 35 = .ok (.iload_n 3, 1) := by decide +kernel
theorem dX8_copy_36 : decode cX8_copy 36 = .ok (.iaload, 1) := by decide +kernel
theorem dX8_copy_37 : decode cX8_copy 37 = .ok (.ifCond .ne 11, 3) := by decide +kernel
theorem dX8_copy_40 : decode cX8_copy 40 = .ok (.aload_n 0, 1) := by decide +kernel
theorem dX8_copy_41 : decode cX8_copy 41 = .ok (.ldc2_w 211, 3) := by decide +kernel
theorem dX8_copy_44 : decode cX8_copy 44 = .ok (.invokevirtual 100, 3) := by decide +kernel
theorem dX8_copy_47 : decode cX8_copy 47 = .ok (.lreturn, 1) := by decide +kernel
theorem dX8_copy_48 : decode cX8_copy 48 = .ok (.aload_n 0, 1) := by decide +kernel
theorem dX8_copy_49 : decode cX8_copy 49 = .ok (.getfield 44, 3) := by decide +kernel
theorem dX8_copy_52 : decode cX8_copy 52 = .ok (.iload_n 1, 1) := by decide +kernel
theorem dX8_copy_53 : decode cX8_copy 53 = .ok (.iaload, 1) := by decide +kernel
theorem dX8_copy_54 : decode cX8_copy 54 = .ok (.aload_n 0, 1) := by decide +kernel
theorem dX8_copy_55 : decode cX8_copy 55 = .ok (.getfield 44, 3) := by decide +kernel
theorem dX8_copy_58 : decode cX8_copy 58 = .ok (.iload_n 3, 1) := by decide +kernel
theorem dX8_copy_59 : decode cX8_copy 59 = .ok (.iaload, 1) := by decide +kernel
theorem dX8_copy_60 : decode cX8_copy 60 = .ok (.if_icmp .eq 11, 3) := by decide +kernel
theorem dX8_copy_63 : decode cX8_copy 63 = .ok (.aload_n 0, 1) := by decide +kernel
theorem dX8_copy_64 : decode cX8_copy 64 = .ok (.ldc2_w 110, 3) := by decide +kernel
theorem dX8_copy_67 : decode cX8_copy 67 = .ok (.invokevirtual 100, 3) := by decide +kernel
theorem dX8_copy_70 : decode cX8_copy 70 = .ok (.lreturn, 1) := by decide +kernel
theorem dX8_copy_71 : decode cX8_copy 71 = .ok (.iload_n 2, 1) := by decide +kernel
theorem dX8_copy_72 : decode cX8_copy 72 = .ok (.ifCond .lt 48, 3) := by decide +kernel
theorem dX8_copy_75 : decode cX8_copy 75 = .ok (.iload 4, 2) := by decide +kernel
theorem dX8_copy_77 : decode cX8_copy 77 = .ok (.ifCond .lt 43, 3) := by decide +kernel
theorem dX8_copy_80 : decode cX8_copy 80 = .ok (.iload 5, 2) := by decide +kernel
theorem dX8_copy_82 : decode cX8_copy 82 = .ok (.ifCond .lt 38, 3) := by decide +kernel
theorem dX8_copy_85 : decode cX8_copy 85 = .ok (.iload_n 2, 1) := by decide +kernel
theorem dX8_copy_86 : decode cX8_copy 86 = .ok (.i2l, 1) := by decide +kernel
theorem dX8_copy_87 : decode cX8_copy 87 = .ok (.iload 5, 2) := by decide +kernel
theorem dX8_copy_89 : decode cX8_copy 89 = .ok (.i2l, 1) := by decide +kernel
theorem dX8_copy_90 : decode cX8_copy 90 = .ok (.ladd, 1) := by decide +kernel
theorem dX8_copy_91 : decode cX8_copy 91 = .ok (.aload_n 0, 1) := by decide +kernel
theorem dX8_copy_92 : decode cX8_copy 92 = .ok (.getfield 47, 3) := by decide +kernel
theorem dX8_copy_95 : decode cX8_copy 95 = .ok (.iload_n 1, 1) := by decide +kernel
theorem dX8_copy_96 : decode cX8_copy 96 = .ok (.iaload, 1) := by decide +kernel
theorem dX8_copy_97 : decode cX8_copy 97 = .ok (.i2l, 1) := by decide +kernel
theorem dX8_copy_98 : decode cX8_copy 98 = .ok (.lcmp, 1) := by decide +kernel
theorem dX8_copy_99 : decode cX8_copy 99 = .ok (.ifCond .gt 21, 3) := by decide +kernel
theorem dX8_copy_102 : decode cX8_copy 102 = .ok (.iload 4, 2) := by decide +kernel
theorem dX8_copy_104 : decode cX8_copy 104 = .ok (.i2l, 1) := by decide +kernel
theorem dX8_copy_105 : decode cX8_copy 105 = .ok (.iload 5, 2) := by decide +kernel
theorem dX8_copy_107 : decode cX8_copy 107 = .ok (.i2l, 1) := by decide +kernel
theorem dX8_copy_108 : decode cX8_copy 108 = .ok (.ladd, 1) := by decide +kernel
theorem dX8_copy_109 : decode cX8_copy 109 = .ok (.aload_n 0, 1) := by decide +kernel
theorem dX8_copy_110 : decode cX8_copy 110 = .ok (.getfield 47, 3) := by decide +kernel
theorem dX8_copy_113 : decode cX8_copy 113 = .ok (.iload_n 3, 1) := by decide +kernel
theorem dX8_copy_114 : decode cX8_copy 114 = .ok (.iaload, 1) := by decide +kernel
theorem dX8_copy_115 : decode cX8_copy 115 = .ok (.i2l, 1) := by decide +kernel
theorem dX8_copy_116 : decode cX8_copy 116 = .ok (.lcmp, 1) := by decide +kernel
theorem dX8_copy_117 : decode cX8_copy 117 = .ok (.ifCond .le 11, 3) := by decide +kernel
theorem dX8_copy_120 : decode cX8_copy 120 = .ok (.aload_n 0, 1) := by decide +kernel
theorem dX8_copy_121 : decode cX8_copy 121 = .ok (.ldc2_w 98, 3) := by decide +kernel
theorem dX8_copy_124 : decode cX8_copy 124 = .ok (.invokevirtual 100, 3) := by decide +kernel
theorem dX8_copy_127 : decode cX8_copy 127 = .ok (.lreturn, 1) := by decide +kernel
theorem dX8_copy_128 : decode cX8_copy 128 = .ok (.iconst 0, 1) := by decide +kernel
theorem dX8_copy_129 : decode cX8_copy 129 = .ok (.istore 6, 2) := by decide +kernel
theorem dX8_copy_131 : decode cX8_copy 131 = .ok (.iload 6, 2) := by decide +kernel
theorem dX8_copy_133 : decode cX8_copy 133 = .ok (.iload 5, 2) := by decide +kernel
theorem dX8_copy_135 : decode cX8_copy 135 = .ok (.if_icmp .ge 30, 3) := by decide +kernel
theorem dX8_copy_138 : decode cX8_copy 138 = .ok (.aload_n 0, 1) := by decide +kernel
theorem dX8_copy_139 : decode cX8_copy 139 = .ok (.getfield 75, 3) := by decide +kernel
theorem dX8_copy_142 : decode cX8_copy 142 = .ok (.iload 6, 2) := by decide +kernel
theorem dX8_copy_144 : decode cX8_copy 144 = .ok (.aload_n 0, 1) := by decide +kernel
theorem dX8_copy_145 : decode cX8_copy 145 = .ok (.getfield 50, 3) := by decide +kernel
theorem dX8_copy_148 : decode cX8_copy 148 = .ok (.bipush 36, 2) := by decide +kernel
theorem dX8_copy_150 : decode cX8_copy 150 = .ok (.iload_n 1, 1) := by decide +kernel
theorem dX8_copy_151 : decode cX8_copy 151 = .ok (.imul, 1) := by decide +kernel
theorem dX8_copy_152 : decode cX8_copy 152 = .ok (.iload_n 2, 1) := by decide +kernel
theorem dX8_copy_153 : decode cX8_copy 153 = .ok (.iadd, 1) := by decide +kernel
theorem dX8_copy_154 : decode cX8_copy 154 = .ok (.iload 6, 2) := by decide +kernel
theorem dX8_copy_156 : decode cX8_copy 156 = .ok (.iadd, 1) := by decide +kernel
theorem dX8_copy_157 : decode cX8_copy 157 = .ok (.iaload, 1) := by decide +kernel
theorem dX8_copy_158 : decode cX8_copy 158 = .ok (.iastore, 1) := by decide +kernel
theorem dX8_copy_159 : decode cX8_copy 159 = .ok (.iinc 6 1, 3) := by decide +kernel
theorem dX8_copy_162 : decode cX8_copy 162 = .ok (.goto (-31), 3) := by decide +kernel
theorem dX8_copy_165 : decode cX8_copy 165 = .ok (.iconst 0, 1) := by decide +kernel
theorem dX8_copy_166 : decode cX8_copy 166 = .ok (.istore 6, 2) := by decide +kernel
theorem dX8_copy_168 : decode cX8_copy 168 = .ok (.iload 6, 2) := by decide +kernel
theorem dX8_copy_170 : decode cX8_copy 170 = .ok (.iload 5, 2) := by decide +kernel
theorem dX8_copy_172 : decode cX8_copy 172 = .ok (.if_icmp .ge 31, 3) := by decide +kernel
theorem dX8_copy_175 : decode cX8_copy 175 = .ok (.aload_n 0, 1) := by decide +kernel
theorem dX8_copy_176 : decode cX8_copy 176 = .ok (.getfield 50, 3) := by decide +kernel
theorem dX8_copy_179 : decode cX8_copy 179 = .ok (.bipush 36, 2) := by decide +kernel
theorem dX8_copy_181 : decode cX8_copy 181 = .ok (.iload_n 3, 1) := by decide +kernel
theorem dX8_copy_182 : decode cX8_copy 182 = .ok (.imul, 1) := by decide +kernel
theorem dX8_copy_183 : decode cX8_copy 183 = .ok (.iload 4, 2) := by decide +kernel
theorem dX8_copy_185 : decode cX8_copy 185 = .ok (.iadd, 1) := by decide +kernel
theorem dX8_copy_186 : decode cX8_copy 186 = .ok (.iload 6, 2) := by decide +kernel
theorem dX8_copy_188 : decode cX8_copy 188 = .ok (.iadd, 1) := by decide +kernel
theorem dX8_copy_189 : decode cX8_copy 189 = .ok (.aload_n 0, 1) := by decide +kernel
theorem dX8_copy_190 : decode cX8_copy 190 = .ok (.getfield 75, 3) := by decide +kernel
theorem dX8_copy_193 : decode cX8_copy 193 = .ok (.iload 6, 2) := by decide +kernel
theorem dX8_copy_195 : decode cX8_copy 195 = .ok (.iaload, 1) := by decide +kernel
theorem dX8_copy_196 : decode cX8_copy 196 = .ok (.iastore, 1) := by decide +kernel
theorem dX8_copy_197 : decode cX8_copy 197 = .ok (.iinc 6 1, 3) := by decide +kernel
theorem dX8_copy_200 : decode cX8_copy 200 = .ok (.goto (-32), 3) := by decide +kernel
theorem dX8_copy_203 : decode cX8_copy 203 = .ok (.iload 5, 2) := by decide +kernel
theorem dX8_copy_205 : decode cX8_copy 205 = .ok (.i2l, 1) := by decide +kernel
theorem dX8_copy_206 : decode cX8_copy 206 = .ok (.lreturn, 1) := by decide +kernel
theorem dX8_lay_0 : decode cX8_lay 0 = .ok (.iload_n 1, 1) := by decide +kernel
theorem dX8_lay_1 : decode cX8_lay 1 = .ok (.invokestatic 187, 3) := by decide +kernel
theorem dX8_lay_4 : decode cX8_lay 4 = .ok (.ifCond .eq 10, 3) := by decide +kernel
theorem dX8_lay_7 : decode cX8_lay 7 = .ok (.iload_n 2, 1) := by decide +kernel
theorem dX8_lay_8 : decode cX8_lay 8 = .ok (.invokestatic 208, 3) := by decide +kernel
theorem dX8_lay_11 : decode cX8_lay 11 = .ok (.ifCond .ne 11, 3) := by decide +kernel
theorem dX8_lay_14 : decode cX8_lay 14 = .ok (.aload_n 0, 1) := by decide +kernel
theorem dX8_lay_15 : decode cX8_lay 15 = .ok (.ldc2_w 98, 3) := by decide +kernel
theorem dX8_lay_18 : decode cX8_lay 18 = .ok (.invokevirtual 100, 3) := by decide +kernel
theorem dX8_lay_21 : decode cX8_lay 21 = .ok (.lreturn, 1) := by decide +kernel
theorem dX8_lay_22 : decode cX8_lay 22 = .ok (.aload_n 0, 1) := by decide +kernel
theorem dX8_lay_23 : decode cX8_lay 23 = .ok (.getfield 44, 3) := by decide +kernel
theorem dX8_lay_26 : decode cX8_lay 26 = .ok (.iload_n 2, 1) := by decide +kernel
theorem dX8_lay_27 : decode cX8_lay 27 = .ok (.iaload, 1) := by decide +kernel
theorem dX8_lay_28 : decode cX8_lay 28 = .ok (.ifCond .ne 11, 3) := by decide +kernel
theorem dX8_lay_31 : decode cX8_lay 31 = .ok (.aload_n 0, 1) := by decide +kernel
theorem dX8_lay_32 : decode cX8_lay 32 = .ok (.ldc2_w 211, 3) := by decide +kernel
theorem dX8_lay_35 : decode cX8_lay 35 = .ok (.invokevirtual 100, 3) := by decide +kernel
theorem dX8_lay_38 : decode cX8_lay 38 = .ok (.lreturn, 1) := by decide +kernel
theorem dX8_lay_39 : decode cX8_lay 39 = .ok (.iconst 0, 1) := by decide +kernel
theorem dX8_lay_40 : decode cX8_lay 40 = .ok (.istore_n 3, 1) := by decide +kernel
theorem dX8_lay_41 : decode cX8_lay 41 = .ok (.iload_n 3, 1) := by decide +kernel
theorem dX8_lay_42 : decode cX8_lay 42 = .ok (.bipush 36, 2) := by decide +kernel
theorem dX8_lay_44 : decode cX8_lay 44 = .ok (.if_icmp .ge 90, 3) := by decide +kernel
theorem dX8_lay_47 : decode cX8_lay 47 = .ok (.iload_n 3, 1) := by decide +kernel
theorem dX8_lay_48 : decode cX8_lay 48 = .ok (.aload_n 0, 1) := by decide +kernel
theorem dX8_lay_49 : decode cX8_lay 49 = .ok (.getfield 47, 3) := by decide +kernel
theorem dX8_lay_52 : decode cX8_lay 52 = .ok (.iload_n 2, 1) := by decide +kernel
theorem dX8_lay_53 : decode cX8_lay 53 = .ok (.iaload, 1) := by decide +kernel
theorem dX8_lay_54 : decode cX8_lay 54 = .ok (.if_icmp .ge 17, 3) := by decide +kernel
theorem dX8_lay_57 : decode cX8_lay 57 = .ok (.aload_n 0, 1) := by decide +kernel
theorem dX8_lay_58 : decode cX8_lay 58 = .ok (.getfield 50, 3) := by decide +kernel
theorem dX8_lay_61 : decode cX8_lay 61 = .ok (.bipush 36, 2) := by decide +kernel
theorem dX8_lay_63 : decode cX8_lay 63 = .ok (.iload_n 2, 1) := by decide +kernel
theorem dX8_lay_64 : decode cX8_lay 64 = .ok (.imul, 1) := by decide +kernel
theorem dX8_lay_65 : decode cX8_lay 65 = .ok (.iload_n 3, 1) := by decide +kernel
theorem dX8_lay_66 : decode cX8_lay 66 = .ok (.iadd, 1) := by decide +kernel
theorem dX8_lay_67 : decode cX8_lay 67 = .ok (.iaload, 1) := by decide +kernel
theorem dX8_lay_68 : decode cX8_lay 68 = .ok (.goto 4, 3) := by decide +kernel
theorem dX8_lay_71 : decode cX8_lay 71 = .ok (.iconst (-1), 1) := by decide +kernel
theorem dX8_lay_72 : decode cX8_lay 72 = .ok (.istore 4, 2) := by decide +kernel
theorem dX8_lay_74 : decode cX8_lay 74 = .ok (.iload 4, 2) := by decide +kernel
theorem dX8_lay_76 : decode cX8_lay 76 = .ok (.bipush 10, 2) := by decide +kernel
theorem dX8_lay_78 : decode cX8_lay 78 = .ok (.if_icmp .eq 21, 3) := by decide +kernel
theorem dX8_lay_81 : decode cX8_lay 81 = .ok (.aload_n 0, 1) := by decide +kernel
theorem dX8_lay_82 : decode cX8_lay 82 = .ok (.iload 4, 2) := by decide +kernel
theorem dX8_lay_84 : decode cX8_lay 84 = .ok (.invokevirtual 106, 3) := by decide +kernel
theorem dX8_lay_87 : decode cX8_lay 87 = .ok (.ifCond .eq 16, 3) := by decide +kernel
theorem dX8_lay_90 : decode cX8_lay 90 = .ok (.aload_n 0, 1) := by decide +kernel
theorem dX8_lay_91 : decode cX8_lay 91 = .ok (.iload 4, 2) := by decide +kernel
theorem dX8_lay_93 : decode cX8_lay 93 = .ok (.invokevirtual 118, 3) := by decide +kernel
theorem dX8_lay_96 : decode cX8_lay 96 = .ok (.ifCond .ne 7, 3) := by decide +kernel
theorem dX8_lay_99 : decode cX8_lay 99 = .ok (.iconst 1, 1) := by decide +kernel
theorem dX8_lay_100 : decode cX8_lay 100 = .ok (.goto 4, 3) := by decide +kernel
theorem dX8_lay_103 : decode cX8_lay 103 = .ok (.iconst 0, 1) := by decide +kernel
theorem dX8_lay_104 : decode cX8_lay 104 = .ok (.istore 5, 2) := by decide +kernel
theorem dX8_lay_106 : decode cX8_lay 106 = .ok (.aload_n 0, 1) := by decide +kernel
theorem dX8_lay_107 : decode cX8_lay 107 = .ok (.getfield 32, 3) := by decide +kernel
theorem dX8_lay_110 : decode cX8_lay 110 = .ok (.bipush 36, 2) := by decide +kernel
theorem dX8_lay_112 : decode cX8_lay 112 = .ok (.iload_n 1, 1) := by decide +kernel
theorem dX8_lay_113 : decode cX8_lay 113 = .ok (.imul, 1) := by decide +kernel
theorem dX8_lay_114 : decode cX8_lay 114 = .ok (.iload_n 3, 1) := by decide +kernel
theorem dX8_lay_115 : decode cX8_lay 115 = .ok (.iadd, 1) := by decide +kernel
theorem dX8_lay_116 : decode cX8_lay 116 = .ok (.iload 5, 2) := by decide +kernel
theorem dX8_lay_118 : decode cX8_lay 118 = .ok (.ifCond .eq 8, 3) := by decide +kernel
theorem dX8_lay_121 : decode cX8_lay 121 = .ok (.iload 4, 2) := by decide +kernel
theorem dX8_lay_123 : decode cX8_lay 123 = .ok (.goto 4, 3) := by decide +kernel
theorem dX8_lay_126 : decode cX8_lay 126 = .ok (.iconst (-1), 1) := by decide +kernel
theorem dX8_lay_127 : decode cX8_lay 127 = .ok (.iastore, 1) := by decide +kernel
theorem dX8_lay_128 : decode cX8_lay 128 = .ok (.iinc 3 1, 3) := by decide +kernel
theorem dX8_lay_131 : decode cX8_lay 131 = .ok (.goto (-90), 3) := by decide +kernel
theorem dX8_lay_134 : decode cX8_lay 134 = .ok (.aload_n 0, 1) := by decide +kernel
theorem dX8_lay_135 : decode cX8_lay 135 = .ok (.iload_n 1, 1) := by decide +kernel
theorem dX8_lay_136 : decode cX8_lay 136 = .ok (.invokevirtual 190, 3) := by decide +kernel
theorem dX8_lay_139 : decode cX8_lay 139 = .ok (.i2l, 1) := by decide +kernel
theorem dX8_lay_140 : decode cX8_lay 140 = .ok (.lreturn, 1) := by decide +kernel
theorem dX8_told_0 : decode cX8_told 0 = .ok (.iconst 0, 1) := by decide +kernel
theorem dX8_told_1 : decode cX8_told 1 = .ok (.istore_n 2, 1) := by decide +kernel
theorem dX8_told_2 : decode cX8_told 2 = .ok (.iload_n 1, 1) := by decide +kernel
theorem dX8_told_3 : decode cX8_told 3 = .ok (.tableswitch 96 0 4 #[33, 39, 45, 85, 91], 33) := by decide +kernel
theorem dX8_told_36 : decode cX8_told 36 = .ok (.aload_n 0, 1) := by decide +kernel
theorem dX8_told_37 : decode cX8_told 37 = .ok (.getfield 82, 3) := by decide +kernel
theorem dX8_told_40 : decode cX8_told 40 = .ok (.i2l, 1) := by decide +kernel
theorem dX8_told_41 : decode cX8_told 41 = .ok (.lreturn, 1) := by decide +kernel
theorem dX8_told_42 : decode cX8_told 42 = .ok (.aload_n 0, 1) := by decide +kernel
theorem dX8_told_43 : decode cX8_told 43 = .ok (.getfield 112, 3) := by decide +kernel
theorem dX8_told_46 : decode cX8_told 46 = .ok (.i2l, 1) := by decide +kernel
theorem dX8_told_47 : decode cX8_told 47 = .ok (.lreturn, 1) := by decide +kernel
theorem dX8_told_48 : decode cX8_told 48 = .ok (.aload_n 0, 1) := by decide +kernel
theorem dX8_told_49 : decode cX8_told 49 = .ok (.invokevirtual 142, 3) := by decide +kernel
theorem dX8_told_52 : decode cX8_told 52 = .ok (.iconst 0, 1) := by decide +kernel
theorem dX8_told_53 : decode cX8_told 53 = .ok (.istore_n 3, 1) := by decide +kernel
theorem dX8_told_54 : decode cX8_told 54 = .ok (.iload_n 3, 1) := by decide +kernel
theorem dX8_told_55 : decode cX8_told 55 = .ok (.aload_n 0, 1) := by decide +kernel
theorem dX8_told_56 : decode cX8_told 56 = .ok (.getfield 112, 3) := by decide +kernel
theorem dX8_told_59 : decode cX8_told 59 = .ok (.if_icmp .ge 26, 3) := by decide +kernel
theorem dX8_told_62 : decode cX8_told 62 = .ok (.iload_n 2, 1) := by decide +kernel
theorem dX8_told_63 : decode cX8_told 63 = .ok (.aload_n 0, 1) := by decide +kernel
theorem dX8_told_64 : decode cX8_told 64 = .ok (.getfield 72, 3) := by decide +kernel
theorem dX8_told_67 : decode cX8_told 67 = .ok (.iload_n 3, 1) := by decide +kernel
theorem dX8_told_68 : decode cX8_told 68 = .ok (.baload, 1) := by decide +kernel
theorem dX8_told_69 : decode cX8_told 69 = .ok (.ifCond .eq 7, 3) := by decide +kernel
theorem dX8_told_72 : decode cX8_told 72 = .ok (.iconst 1, 1) := by decide +kernel
theorem dX8_told_73 : decode cX8_told 73 = .ok (.goto 4, 3) := by decide +kernel
theorem dX8_told_76 : decode cX8_told 76 = .ok (.iconst 0, 1) := by decide +kernel
theorem dX8_told_77 : decode cX8_told 77 = .ok (.iadd, 1) := by decide +kernel
theorem dX8_told_78 : decode cX8_told 78 = .ok (.istore_n 2, 1) := by decide +kernel
theorem dX8_told_79 : decode cX8_told 79 = .ok (.iinc 3 1, 3) := by decide +kernel
theorem dX8_told_82 : decode cX8_told 82 = .ok (.goto (-28), 3) := by decide +kernel
theorem dX8_told_85 : decode cX8_told 85 = .ok (.iload_n 2, 1) := by decide +kernel
theorem dX8_told_86 : decode cX8_told 86 = .ok (.i2l, 1) := by decide +kernel
theorem dX8_told_87 : decode cX8_told 87 = .ok (.lreturn, 1) := by decide +kernel
theorem dX8_told_88 : decode cX8_told 88 = .ok (.aload_n 0, 1) := by decide +kernel
theorem dX8_told_89 : decode cX8_told 89 = .ok (.getfield 198, 3) := by decide +kernel
theorem dX8_told_92 : decode cX8_told 92 = .ok (.i2l, 1) := by decide +kernel
theorem dX8_told_93 : decode cX8_told 93 = .ok (.lreturn, 1) := by decide +kernel
theorem dX8_told_94 : decode cX8_told 94 = .ok (.aload_n 0, 1) := by decide +kernel
theorem dX8_told_95 : decode cX8_told 95 = .ok (.getfield 78, 3) := by decide +kernel
theorem dX8_told_98 : decode cX8_told 98 = .ok (.lreturn, 1) := by decide +kernel
theorem dX8_told_99 : decode cX8_told 99 = .ok (.aload_n 0, 1) := by decide +kernel
theorem dX8_told_100 : decode cX8_told 100 = .ok (.ldc2_w 98, 3) := by decide +kernel
theorem dX8_told_103 : decode cX8_told 103 = .ok (.invokevirtual 100, 3) := by decide +kernel
theorem dX8_told_106 : decode cX8_told 106 = .ok (.lreturn, 1) := by decide +kernel
theorem dJ13_bitCount_95d88_0 : decode cJ13_bitCount_95d88 0 = .ok (.lload_n 0, 1) := by decide +kernel
theorem dJ13_bitCount_95d88_1 : decode cJ13_bitCount_95d88 1 = .ok (.lload_n 0, 1) := by decide +kernel
theorem dJ13_bitCount_95d88_2 : decode cJ13_bitCount_95d88 2 = .ok (.iconst 1, 1) := by decide +kernel
theorem dJ13_bitCount_95d88_3 : decode cJ13_bitCount_95d88 3 = .ok (.lushr, 1) := by decide +kernel
theorem dJ13_bitCount_95d88_4 : decode cJ13_bitCount_95d88 4 = .ok (.ldc2_w 314, 3) := by decide +kernel
theorem dJ13_bitCount_95d88_7 : decode cJ13_bitCount_95d88 7 = .ok (.land, 1) := by decide +kernel
theorem dJ13_bitCount_95d88_8 : decode cJ13_bitCount_95d88 8 = .ok (.lsub, 1) := by decide +kernel
theorem dJ13_bitCount_95d88_9 : decode cJ13_bitCount_95d88 9 = .ok (.lstore_n 0, 1) := by decide +kernel
theorem dJ13_bitCount_95d88_10 : decode cJ13_bitCount_95d88 10 = .ok (.lload_n 0, 1) := by decide +kernel
theorem dJ13_bitCount_95d88_11 : decode cJ13_bitCount_95d88 11 = .ok (.ldc2_w 316, 3) := by decide +kernel
theorem dJ13_bitCount_95d88_14 : decode cJ13_bitCount_95d88 14 = .ok (.land, 1) := by decide +kernel
theorem dJ13_bitCount_95d88_15 : decode cJ13_bitCount_95d88 15 = .ok (.lload_n 0, 1) := by decide +kernel
theorem dJ13_bitCount_95d88_16 : decode cJ13_bitCount_95d88 16 = .ok (.iconst 2, 1) := by decide +kernel
theorem dJ13_bitCount_95d88_17 : decode cJ13_bitCount_95d88 17 = .ok (.lushr, 1) := by decide +kernel
theorem dJ13_bitCount_95d88_18 : decode cJ13_bitCount_95d88 18 = .ok (.ldc2_w 316, 3) := by decide +kernel
theorem dJ13_bitCount_95d88_21 : decode cJ13_bitCount_95d88 21 = .ok (.land, 1) := by decide +kernel
theorem dJ13_bitCount_95d88_22 : decode cJ13_bitCount_95d88 22 = .ok (.ladd, 1) := by decide +kernel
theorem dJ13_bitCount_95d88_23 : decode cJ13_bitCount_95d88 23 = .ok (.lstore_n 0, 1) := by decide +kernel
theorem dJ13_bitCount_95d88_24 : decode cJ13_bitCount_95d88 24 = .ok (.lload_n 0, 1) := by decide +kernel
theorem dJ13_bitCount_95d88_25 : decode cJ13_bitCount_95d88 25 = .ok (.lload_n 0, 1) := by decide +kernel
theorem dJ13_bitCount_95d88_26 : decode cJ13_bitCount_95d88 26 = .ok (.iconst 4, 1) := by decide +kernel
theorem dJ13_bitCount_95d88_27 : decode cJ13_bitCount_95d88 27 = .ok (.lushr, 1) := by decide +kernel
theorem dJ13_bitCount_95d88_28 : decode cJ13_bitCount_95d88 28 = .ok (.ladd, 1) := by decide +kernel
theorem dJ13_bitCount_95d88_29 : decode cJ13_bitCount_95d88 29 = .ok (.ldc2_w 318, 3) := by decide +kernel
theorem dJ13_bitCount_95d88_32 : decode cJ13_bitCount_95d88 32 = .ok (.land, 1) := by decide +kernel
theorem dJ13_bitCount_95d88_33 : decode cJ13_bitCount_95d88 33 = .ok (.lstore_n 0, 1) := by decide +kernel
theorem dJ13_bitCount_95d88_34 : decode cJ13_bitCount_95d88 34 = .ok (.lload_n 0, 1) := by decide +kernel
theorem dJ13_bitCount_95d88_35 : decode cJ13_bitCount_95d88 35 = .ok (.lload_n 0, 1) := by decide +kernel
theorem dJ13_bitCount_95d88_36 : decode cJ13_bitCount_95d88 36 = .ok (.bipush 8, 2) := by decide +kernel
theorem dJ13_bitCount_95d88_38 : decode cJ13_bitCount_95d88 38 = .ok (.lushr, 1) := by decide +kernel
theorem dJ13_bitCount_95d88_39 : decode cJ13_bitCount_95d88 39 = .ok (.ladd, 1) := by decide +kernel
theorem dJ13_bitCount_95d88_40 : decode cJ13_bitCount_95d88 40 = .ok (.lstore_n 0, 1) := by decide +kernel
theorem dJ13_bitCount_95d88_41 : decode cJ13_bitCount_95d88 41 = .ok (.lload_n 0, 1) := by decide +kernel
theorem dJ13_bitCount_95d88_42 : decode cJ13_bitCount_95d88 42 = .ok (.lload_n 0, 1) := by decide +kernel
theorem dJ13_bitCount_95d88_43 : decode cJ13_bitCount_95d88 43 = .ok (.bipush 16, 2) := by decide +kernel
theorem dJ13_bitCount_95d88_45 : decode cJ13_bitCount_95d88 45 = .ok (.lushr, 1) := by decide +kernel
theorem dJ13_bitCount_95d88_46 : decode cJ13_bitCount_95d88 46 = .ok (.ladd, 1) := by decide +kernel
theorem dJ13_bitCount_95d88_47 : decode cJ13_bitCount_95d88 47 = .ok (.lstore_n 0, 1) := by decide +kernel
theorem dJ13_bitCount_95d88_48 : decode cJ13_bitCount_95d88 48 = .ok (.lload_n 0, 1) := by decide +kernel
theorem dJ13_bitCount_95d88_49 : decode cJ13_bitCount_95d88 49 = .ok (.lload_n 0, 1) := by decide +kernel
theorem dJ13_bitCount_95d88_50 : decode cJ13_bitCount_95d88 50 = .ok (.bipush 32, 2) := by decide +kernel
theorem dJ13_bitCount_95d88_52 : decode cJ13_bitCount_95d88 52 = .ok (.lushr, 1) := by decide +kernel
theorem dJ13_bitCount_95d88_53 : decode cJ13_bitCount_95d88 53 = .ok (.ladd, 1) := by decide +kernel
theorem dJ13_bitCount_95d88_54 : decode cJ13_bitCount_95d88 54 = .ok (.lstore_n 0, 1) := by decide +kernel
theorem dJ13_bitCount_95d88_55 : decode cJ13_bitCount_95d88 55 = .ok (.lload_n 0, 1) := by decide +kernel
theorem dJ13_bitCount_95d88_56 : decode cJ13_bitCount_95d88 56 = .ok (.l2i, 1) := by decide +kernel
theorem dJ13_bitCount_95d88_57 : decode cJ13_bitCount_95d88 57 = .ok (.bipush 127, 2) := by decide +kernel
theorem dJ13_bitCount_95d88_59 : decode cJ13_bitCount_95d88 59 = .ok (.iand, 1) := by decide +kernel
theorem dJ13_bitCount_95d88_60 : decode cJ13_bitCount_95d88 60 = .ok (.ireturn, 1) := by decide +kernel
theorem dJ9_abs_0f7a4_0 : decode cJ9_abs_0f7a4 0 = .ok (.iload_n 0, 1) := by decide +kernel
theorem dJ9_abs_0f7a4_1 : decode cJ9_abs_0f7a4 1 = .ok (.ifCond .ge 8, 3) := by decide +kernel
theorem dJ9_abs_0f7a4_4 : decode cJ9_abs_0f7a4 4 = .ok (.iload_n 0, 1) := by decide +kernel
theorem dJ9_abs_0f7a4_5 : decode cJ9_abs_0f7a4 5 = .ok (.ineg, 1) := by decide +kernel
theorem dJ9_abs_0f7a4_6 : decode cJ9_abs_0f7a4 6 = .ok (.goto 4, 3) := by decide +kernel
theorem dJ9_abs_0f7a4_9 : decode cJ9_abs_0f7a4 9 = .ok (.iload_n 0, 1) := by decide +kernel
theorem dJ9_abs_0f7a4_10 : decode cJ9_abs_0f7a4 10 = .ok (.ireturn, 1) := by decide +kernel
theorem dJ7_fill_53178_0 : decode cJ7_fill_53178 0 = .ok (.iconst 0, 1) := by decide +kernel
theorem dJ7_fill_53178_1 : decode cJ7_fill_53178 1 = .ok (.istore_n 2, 1) := by decide +kernel
theorem dJ7_fill_53178_2 : decode cJ7_fill_53178 2 = .ok (.aload_n 0, 1) := by decide +kernel
theorem dJ7_fill_53178_3 : decode cJ7_fill_53178 3 = .ok (.arraylength, 1) := by decide +kernel
theorem dJ7_fill_53178_4 : decode cJ7_fill_53178 4 = .ok (.istore_n 3, 1) := by decide +kernel
theorem dJ7_fill_53178_5 : decode cJ7_fill_53178 5 = .ok (.iload_n 2, 1) := by decide +kernel
theorem dJ7_fill_53178_6 : decode cJ7_fill_53178 6 = .ok (.iload_n 3, 1) := by decide +kernel
theorem dJ7_fill_53178_7 : decode cJ7_fill_53178 7 = .ok (.if_icmp .ge 13, 3) := by decide +kernel
theorem dJ7_fill_53178_10 : decode cJ7_fill_53178 10 = .ok (.aload_n 0, 1) := by decide +kernel
theorem dJ7_fill_53178_11 : decode cJ7_fill_53178 11 = .ok (.iload_n 2, 1) := by decide +kernel
theorem dJ7_fill_53178_12 : decode cJ7_fill_53178 12 = .ok (.iload_n 1, 1) := by decide +kernel
theorem dJ7_fill_53178_13 : decode cJ7_fill_53178 13 = .ok (.iastore, 1) := by decide +kernel
theorem dJ7_fill_53178_14 : decode cJ7_fill_53178 14 = .ok (.iinc 2 1, 3) := by decide +kernel
theorem dJ7_fill_53178_17 : decode cJ7_fill_53178 17 = .ok (.goto (-12), 3) := by decide +kernel
theorem dJ7_fill_53178_20 : decode cJ7_fill_53178 20 = .ok (.return_, 1) := by decide +kernel
end
section
theorem dL_law_0 : decode cL_law 0 = .ok (.new 7, 3) := by decide +kernel
theorem dL_law_3 : decode cL_law 3 = .ok (.dup, 1) := by decide +kernel
theorem dL_law_4 : decode cL_law 4 = .ok (.invokespecial 9, 3) := by decide +kernel
theorem dL_law_7 : decode cL_law 7 = .ok (.astore_n 1, 1) := by decide +kernel
theorem dL_law_8 : decode cL_law 8 = .ok (.new 10, 3) := by decide +kernel
theorem dL_law_11 : decode cL_law 11 = .ok (.dup, 1) := by decide +kernel
theorem dL_law_12 : decode cL_law 12 = .ok (.invokespecial 12, 3) := by decide +kernel
theorem dL_law_15 : decode cL_law 15 = .ok (.astore_n 2, 1) := by decide +kernel
theorem dL_law_16 : decode cL_law 16 = .ok (.iconst 0, 1) := by decide +kernel
theorem dL_law_17 : decode cL_law 17 = .ok (.istore_n 3, 1) := by decide +kernel
theorem dL_law_18 : decode cL_law 18 = .ok (.iload_n 3, 1) := by decide +kernel
theorem dL_law_19 : decode cL_law 19 = .ok (.aload_n 0, 1) := by decide +kernel
theorem dL_law_20 : decode cL_law 20 = .ok (.arraylength, 1) := by decide +kernel
theorem dL_law_21 : decode cL_law 21 = .ok (.bipush 6, 2) := by decide +kernel
theorem dL_law_23 : decode cL_law 23 = .ok (.isub, 1) := by decide +kernel
theorem dL_law_24 : decode cL_law 24 = .ok (.if_icmp .gt 1356, 3) := by decide +kernel
theorem dL_law_27 : decode cL_law 27 = .ok (.aload_n 0, 1) := by decide +kernel
theorem dL_law_28 : decode cL_law 28 = .ok (.iload_n 3, 1) := by decide +kernel
theorem dL_law_29 : decode cL_law 29 = .ok (.iaload, 1) := by decide +kernel
theorem dL_law_30 : decode cL_law 30 = .ok (.bipush 31, 2) := by decide +kernel
theorem dL_law_32 : decode cL_law 32 = .ok (.iand, 1) := by decide +kernel
theorem dL_law_33 : decode cL_law 33 = .ok (.tableswitch 1341 0 29 #[135, 159, 193, 267, 351, 395, 429, 473, 507, 521, 555, 589, 623, 667, 701, 745, 769, 803, 837, 881, 915, 959, 993, 1037, 1107, 1131, 1175, 1219, 1283, 1317], 135) := by decide +kernel
theorem dL_law_168 : decode cL_law 168 = .ok (.aload_n 1, 1) := by decide +kernel
theorem dL_law_169 : decode cL_law 169 = .ok (.aload_n 0, 1) := by decide +kernel
theorem dL_law_170 : decode cL_law 170 = .ok (.iload_n 3, 1) := by decide +kernel
theorem dL_law_171 : decode cL_law 171 = .ok (.iconst 1, 1) := by decide +kernel
theorem dL_law_172 : decode cL_law 172 = .ok (.iadd, 1) := by decide +kernel
theorem dL_law_173 : decode cL_law 173 = .ok (.iaload, 1) := by decide +kernel
theorem dL_law_174 : decode cL_law 174 = .ok (.invokevirtual 13, 3) := by decide +kernel
theorem dL_law_177 : decode cL_law 177 = .ok (.aload_n 2, 1) := by decide +kernel
theorem dL_law_178 : decode cL_law 178 = .ok (.aload_n 0, 1) := by decide +kernel
theorem dL_law_179 : decode cL_law 179 = .ok (.iload_n 3, 1) := by decide +kernel
theorem dL_law_180 : decode cL_law 180 = .ok (.iconst 1, 1) := by decide +kernel
theorem dL_law_181 : decode cL_law 181 = .ok (.iadd, 1) := by decide +kernel
theorem dL_law_182 : decode cL_law 182 = .ok (.iaload, 1) := by decide +kernel
theorem dL_law_183 : decode cL_law 183 = .ok (.invokevirtual 17, 3) := by decide +kernel
theorem dL_law_186 : decode cL_law 186 = .ok (.lcmp, 1) := by decide +kernel
theorem dL_law_187 : decode cL_law 187 = .ok (.ifCond .eq 1187, 3) := by decide +kernel
theorem dL_law_190 : decode cL_law 190 = .ok (.iconst 0, 1) := by decide +kernel
theorem dL_law_191 : decode cL_law 191 = .ok (.ireturn, 1) := by decide +kernel
theorem dL_law_192 : decode cL_law 192 = .ok (.aload_n 1, 1) := by decide +kernel
theorem dL_law_193 : decode cL_law 193 = .ok (.aload_n 0, 1) := by decide +kernel
theorem dL_law_194 : decode cL_law 194 = .ok (.iload_n 3, 1) := by decide +kernel
theorem dL_law_195 : decode cL_law 195 = .ok (.iconst 1, 1) := by decide +kernel
theorem dL_law_196 : decode cL_law 196 = .ok (.iadd, 1) := by decide +kernel
theorem dL_law_197 : decode cL_law 197 = .ok (.iaload, 1) := by decide +kernel
theorem dL_law_198 : decode cL_law 198 = .ok (.aload_n 0, 1) := by decide +kernel
theorem dL_law_199 : decode cL_law 199 = .ok (.iload_n 3, 1) := by decide +kernel
theorem dL_law_200 : decode cL_law 200 = .ok (.iconst 2, 1) := by decide +kernel
theorem dL_law_201 : decode cL_law 201 = .ok (.iadd, 1) := by decide +kernel
theorem dL_law_202 : decode cL_law 202 = .ok (.iaload, 1) := by decide +kernel
theorem dL_law_203 : decode cL_law 203 = .ok (.invokevirtual 18, 3) := by decide +kernel
theorem dL_law_206 : decode cL_law 206 = .ok (.aload_n 2, 1) := by decide +kernel
theorem dL_law_207 : decode cL_law 207 = .ok (.aload_n 0, 1) := by decide +kernel
theorem dL_law_208 : decode cL_law 208 = .ok (.iload_n 3, 1) := by decide +kernel
theorem dL_law_209 : decode cL_law 209 = .ok (.iconst 1, 1) := by decide +kernel
theorem dL_law_210 : decode cL_law 210 = .ok (.iadd, 1) := by decide +kernel
theorem dL_law_211 : decode cL_law 211 = .ok (.iaload, 1) := by decide +kernel
theorem dL_law_212 : decode cL_law 212 = .ok (.aload_n 0, 1) := by decide +kernel
theorem dL_law_213 : decode cL_law 213 = .ok (.iload_n 3, 1) := by decide +kernel
theorem dL_law_214 : decode cL_law 214 = .ok (.iconst 2, 1) := by decide +kernel
theorem dL_law_215 : decode cL_law 215 = .ok (.iadd, 1) := by decide +kernel
theorem dL_law_216 : decode cL_law 216 = .ok (.iaload, 1) := by decide +kernel
theorem dL_law_217 : decode cL_law 217 = .ok (.invokevirtual 22, 3) := by decide +kernel
theorem dL_law_220 : decode cL_law 220 = .ok (.lcmp, 1) := by decide +kernel
theorem dL_law_221 : decode cL_law 221 = .ok (.ifCond .eq 1153, 3) := by decide +kernel
theorem dL_law_224 : decode cL_law 224 = .ok (.iconst 0, 1) := by decide +kernel
theorem dL_law_225 : decode cL_law 225 = .ok (.ireturn, 1) := by decide +kernel
theorem dL_law_226 : decode cL_law 226 = .ok (.aload_n 1, 1) := by decide +kernel
theorem dL_law_227 : decode cL_law 227 = .ok (.aload_n 0, 1) := by decide +kernel
theorem dL_law_228 : decode cL_law 228 = .ok (.iload_n 3, 1) := by decide +kernel
theorem dL_law_229 : decode cL_law 229 = .ok (.iconst 1, 1) := by decide +kernel
theorem dL_law_230 : decode cL_law 230 = .ok (.iadd, 1) := by decide +kernel
theorem dL_law_231 : decode cL_law 231 = .ok (.iaload, 1) := by decide +kernel
theorem dL_law_232 : decode cL_law 232 = .ok (.aload_n 0, 1) := by decide +kernel
theorem dL_law_233 : decode cL_law 233 = .ok (.iload_n 3, 1) := by decide +kernel
theorem dL_law_234 : decode cL_law 234 = .ok (.iconst 2, 1) := by decide +kernel
theorem dL_law_235 : decode cL_law 235 = .ok (.iadd, 1) := by decide +kernel
theorem dL_law_236 : decode cL_law 236 = .ok (.iaload, 1) := by decide +kernel
theorem dL_law_237 : decode cL_law 237 = .ok (.aload_n 0, 1) := by decide +kernel
theorem dL_law_238 : decode cL_law 238 = .ok (.iload_n 3, 1) := by decide +kernel
theorem dL_law_239 : decode cL_law 239 = .ok (.iconst 3, 1) := by decide +kernel
theorem dL_law_240 : decode cL_law 240 = .ok (.iadd, 1) := by decide +kernel
theorem dL_law_241 : decode cL_law 241 = .ok (.iaload, 1) := by decide +kernel
theorem dL_law_242 : decode cL_law 242 = .ok (.i2l, 1) := by decide +kernel
theorem dL_law_243 : decode cL_law 243 = .ok (.bipush 32, 2) := by decide +kernel
theorem dL_law_245 : decode cL_law 245 = .ok (.lshl, 1) := by decide +kernel
theorem dL_law_246 : decode cL_law 246 = .ok (.aload_n 0, 1) := by decide +kernel
theorem dL_law_247 : decode cL_law 247 = .ok (.iload_n 3, 1) := by decide +kernel
theorem dL_law_248 : decode cL_law 248 = .ok (.iconst 4, 1) := by decide +kernel
theorem dL_law_249 : decode cL_law 249 = .ok (.iadd, 1) := by decide +kernel
theorem dL_law_250 : decode cL_law 250 = .ok (.iaload, 1) := by decide +kernel
theorem dL_law_251 : decode cL_law 251 = .ok (.i2l, 1) := by decide +kernel
theorem dL_law_252 : decode cL_law 252 = .ok (.ldc2_w 23, 3) := by decide +kernel
theorem dL_law_255 : decode cL_law 255 = .ok (.land, 1) := by decide +kernel
theorem dL_law_256 : decode cL_law 256 = .ok (.lor, 1) := by decide +kernel
theorem dL_law_257 : decode cL_law 257 = .ok (.invokevirtual 25, 3) := by decide +kernel
theorem dL_law_260 : decode cL_law 260 = .ok (.aload_n 2, 1) := by decide +kernel
theorem dL_law_261 : decode cL_law 261 = .ok (.aload_n 0, 1) := by decide +kernel
theorem dL_law_262 : decode cL_law 262 = .ok (.iload_n 3, 1) := by decide +kernel
theorem dL_law_263 : decode cL_law 263 = .ok (.iconst 1, 1) := by decide +kernel
theorem dL_law_264 : decode cL_law 264 = .ok (.iadd, 1) := by decide +kernel
theorem dL_law_265 : decode cL_law 265 = .ok (.iaload, 1) := by decide +kernel
theorem dL_law_266 : decode cL_law 266 = .ok (.aload_n 0, 1) := by decide +kernel
theorem dL_law_267 : decode cL_law 267 = .ok (.iload_n 3, 1) := by decide +kernel
theorem dL_law_268 : decode cL_law 268 = .ok (.iconst 2, 1) := by decide +kernel
theorem dL_law_269 : decode cL_law 269 = .ok (.iadd, 1) := by decide +kernel
theorem dL_law_270 : decode cL_law 270 = .ok (.iaload, 1) := by decide +kernel
theorem dL_law_271 : decode cL_law 271 = .ok (.aload_n 0, 1) := by decide +kernel
theorem dL_law_272 : decode cL_law 272 = .ok (.iload_n 3, 1) := by decide +kernel
theorem dL_law_273 : decode cL_law 273 = .ok (.iconst 3, 1) := by decide +kernel
theorem dL_law_274 : decode cL_law 274 = .ok (.iadd, 1) := by decide +kernel
theorem dL_law_275 : decode cL_law 275 = .ok (.iaload, 1) := by decide +kernel
theorem dL_law_276 : decode cL_law 276 = .ok (.i2l, 1) := by decide +kernel
theorem dL_law_277 : decode cL_law 277 = .ok (.bipush 32, 2) := by decide +kernel
theorem dL_law_279 : decode cL_law 279 = .ok (.lshl, 1) := by decide +kernel
theorem dL_law_280 : decode cL_law 280 = .ok (.aload_n 0, 1) := by decide +kernel
theorem dL_law_281 : decode cL_law 281 = .ok (.iload_n 3, 1) := by decide +kernel
theorem dL_law_282 : decode cL_law 282 = .ok (.iconst 4, 1) := by decide +kernel
theorem dL_law_283 : decode cL_law 283 = .ok (.iadd, 1) := by decide +kernel
theorem dL_law_284 : decode cL_law 284 = .ok (.iaload, 1) := by decide +kernel
theorem dL_law_285 : decode cL_law 285 = .ok (.i2l, 1) := by decide +kernel
theorem dL_law_286 : decode cL_law 286 = .ok (.ldc2_w 23, 3) := by decide +kernel
theorem dL_law_289 : decode cL_law 289 = .ok (.land, 1) := by decide +kernel
theorem dL_law_290 : decode cL_law 290 = .ok (.lor, 1) := by decide +kernel
theorem dL_law_291 : decode cL_law 291 = .ok (.invokevirtual 29, 3) := by decide +kernel
theorem dL_law_294 : decode cL_law 294 = .ok (.lcmp, 1) := by decide +kernel
theorem dL_law_295 : decode cL_law 295 = .ok (.ifCond .eq 1079, 3) := by decide +kernel
theorem dL_law_298 : decode cL_law 298 = .ok (.iconst 0, 1) := by decide +kernel
theorem dL_law_299 : decode cL_law 299 = .ok (.ireturn, 1) := by decide +kernel
theorem dL_law_300 : decode cL_law 300 = .ok (.aload_n 1, 1) := by decide +kernel
theorem dL_law_301 : decode cL_law 301 = .ok (.aload_n 0, 1) := by decide +kernel
theorem dL_law_302 : decode cL_law 302 = .ok (.iload_n 3, 1) := by decide +kernel
theorem dL_law_303 : decode cL_law 303 = .ok (.iconst 1, 1) := by decide +kernel
theorem dL_law_304 : decode cL_law 304 = .ok (.iadd, 1) := by decide +kernel
theorem dL_law_305 : decode cL_law 305 = .ok (.iaload, 1) := by decide +kernel
theorem dL_law_306 : decode cL_law 306 = .ok (.aload_n 0, 1) := by decide +kernel
theorem dL_law_307 : decode cL_law 307 = .ok (.iload_n 3, 1) := by decide +kernel
theorem dL_law_308 : decode cL_law 308 = .ok (.iconst 2, 1) := by decide +kernel
theorem dL_law_309 : decode cL_law 309 = .ok (.iadd, 1) := by decide +kernel
theorem dL_law_310 : decode cL_law 310 = .ok (.iaload, 1) := by decide +kernel
theorem dL_law_311 : decode cL_law 311 = .ok (.aload_n 0, 1) := by decide +kernel
theorem dL_law_312 : decode cL_law 312 = .ok (.iload_n 3, 1) := by decide +kernel
theorem dL_law_313 : decode cL_law 313 = .ok (.iconst 3, 1) := by decide +kernel
theorem dL_law_314 : decode cL_law 314 = .ok (.iadd, 1) := by decide +kernel
theorem dL_law_315 : decode cL_law 315 = .ok (.iaload, 1) := by decide +kernel
theorem dL_law_316 : decode cL_law 316 = .ok (.aload_n 0, 1) := by decide +kernel
theorem dL_law_317 : decode cL_law 317 = .ok (.iload_n 3, 1) := by decide +kernel
theorem dL_law_318 : decode cL_law 318 = .ok (.iconst 4, 1) := by decide +kernel
theorem dL_law_319 : decode cL_law 319 = .ok (.iadd, 1) := by decide +kernel
theorem dL_law_320 : decode cL_law 320 = .ok (.iaload, 1) := by decide +kernel
theorem dL_law_321 : decode cL_law 321 = .ok (.i2l, 1) := by decide +kernel
theorem dL_law_322 : decode cL_law 322 = .ok (.bipush 32, 2) := by decide +kernel
theorem dL_law_324 : decode cL_law 324 = .ok (.lshl, 1) := by decide +kernel
theorem dL_law_325 : decode cL_law 325 = .ok (.aload_n 0, 1) := by decide +kernel
theorem dL_law_326 : decode cL_law 326 = .ok (.iload_n 3, 1) := by decide +kernel
theorem dL_law_327 : decode cL_law 327 = .ok (.iconst 5, 1) := by decide +kernel
theorem dL_law_328 : decode cL_law 328 = .ok (.iadd, 1) := by decide +kernel
theorem dL_law_329 : decode cL_law 329 = .ok (.iaload, 1) := by decide +kernel
theorem dL_law_330 : decode cL_law 330 = .ok (.i2l, 1) := by decide +kernel
theorem dL_law_331 : decode cL_law 331 = .ok (.ldc2_w 23, 3) := by decide +kernel
theorem dL_law_334 : decode cL_law 334 = .ok (.land, 1) := by decide +kernel
theorem dL_law_335 : decode cL_law 335 = .ok (.lor, 1) := by decide +kernel
theorem dL_law_336 : decode cL_law 336 = .ok (.invokevirtual 30, 3) := by decide +kernel
theorem dL_law_339 : decode cL_law 339 = .ok (.aload_n 2, 1) := by decide +kernel
theorem dL_law_340 : decode cL_law 340 = .ok (.aload_n 0, 1) := by decide +kernel
theorem dL_law_341 : decode cL_law 341 = .ok (.iload_n 3, 1) := by decide +kernel
theorem dL_law_342 : decode cL_law 342 = .ok (.iconst 1, 1) := by decide +kernel
theorem dL_law_343 : decode cL_law 343 = .ok (.iadd, 1) := by decide +kernel
theorem dL_law_344 : decode cL_law 344 = .ok (.iaload, 1) := by decide +kernel
theorem dL_law_345 : decode cL_law 345 = .ok (.aload_n 0, 1) := by decide +kernel
theorem dL_law_346 : decode cL_law 346 = .ok (.iload_n 3, 1) := by decide +kernel
theorem dL_law_347 : decode cL_law 347 = .ok (.iconst 2, 1) := by decide +kernel
theorem dL_law_348 : decode cL_law 348 = .ok (.iadd, 1) := by decide +kernel
theorem dL_law_349 : decode cL_law 349 = .ok (.iaload, 1) := by decide +kernel
theorem dL_law_350 : decode cL_law 350 = .ok (.aload_n 0, 1) := by decide +kernel
theorem dL_law_351 : decode cL_law 351 = .ok (.iload_n 3, 1) := by decide +kernel
theorem dL_law_352 : decode cL_law 352 = .ok (.iconst 3, 1) := by decide +kernel
theorem dL_law_353 : decode cL_law 353 = .ok (.iadd, 1) := by decide +kernel
theorem dL_law_354 : decode cL_law 354 = .ok (.iaload, 1) := by decide +kernel
theorem dL_law_355 : decode cL_law 355 = .ok (.aload_n 0, 1) := by decide +kernel
theorem dL_law_356 : decode cL_law 356 = .ok (.iload_n 3, 1) := by decide +kernel
theorem dL_law_357 : decode cL_law 357 = .ok (.iconst 4, 1) := by decide +kernel
theorem dL_law_358 : decode cL_law 358 = .ok (.iadd, 1) := by decide +kernel
theorem dL_law_359 : decode cL_law 359 = .ok (.iaload, 1) := by decide +kernel
theorem dL_law_360 : decode cL_law 360 = .ok (.i2l, 1) := by decide +kernel
theorem dL_law_361 : decode cL_law 361 = .ok (.bipush 32, 2) := by decide +kernel
theorem dL_law_363 : decode cL_law 363 = .ok (.lshl, 1) := by decide +kernel
theorem dL_law_364 : decode cL_law 364 = .ok (.aload_n 0, 1) := by decide +kernel
theorem dL_law_365 : decode cL_law 365 = .ok (.iload_n 3, 1) := by decide +kernel
theorem dL_law_366 : decode cL_law 366 = .ok (.iconst 5, 1) := by decide +kernel
theorem dL_law_367 : decode cL_law 367 = .ok (.iadd, 1) := by decide +kernel
theorem dL_law_368 : decode cL_law 368 = .ok (.iaload, 1) := by decide +kernel
theorem dL_law_369 : decode cL_law 369 = .ok (.i2l, 1) := by decide +kernel
theorem dL_law_370 : decode cL_law 370 = .ok (.ldc2_w 23, 3) := by decide +kernel
theorem dL_law_373 : decode cL_law 373 = .ok (.land, 1) := by decide +kernel
theorem dL_law_374 : decode cL_law 374 = .ok (.lor, 1) := by decide +kernel
theorem dL_law_375 : decode cL_law 375 = .ok (.invokevirtual 34, 3) := by decide +kernel
theorem dL_law_378 : decode cL_law 378 = .ok (.lcmp, 1) := by decide +kernel
theorem dL_law_379 : decode cL_law 379 = .ok (.ifCond .eq 995, 3) := by decide +kernel
theorem dL_law_382 : decode cL_law 382 = .ok (.iconst 0, 1) := by decide +kernel
theorem dL_law_383 : decode cL_law 383 = .ok (.ireturn, 1) := by decide +kernel
theorem dL_law_384 : decode cL_law 384 = .ok (.aload_n 1, 1) := by decide +kernel
theorem dL_law_385 : decode cL_law 385 = .ok (.aload_n 0, 1) := by decide +kernel
theorem dL_law_386 : decode cL_law 386 = .ok (.iload_n 3, 1) := by decide +kernel
theorem dL_law_387 : decode cL_law 387 = .ok (.iconst 1, 1) := by decide +kernel
theorem dL_law_388 : decode cL_law 388 = .ok (.iadd, 1) := by decide +kernel
theorem dL_law_389 : decode cL_law 389 = .ok (.iaload, 1) := by decide +kernel
theorem dL_law_390 : decode cL_law 390 = .ok (.aload_n 0, 1) := by decide +kernel
theorem dL_law_391 : decode cL_law 391 = .ok (.iload_n 3, 1) := by decide +kernel
theorem dL_law_392 : decode cL_law 392 = .ok (.iconst 2, 1) := by decide +kernel
theorem dL_law_393 : decode cL_law 393 = .ok (.iadd, 1) := by decide +kernel
theorem dL_law_394 : decode cL_law 394 = .ok (.iaload, 1) := by decide +kernel
theorem dL_law_395 : decode cL_law 395 = .ok (.aload_n 0, 1) := by decide +kernel
theorem dL_law_396 : decode cL_law 396 = .ok (.iload_n 3, 1) := by decide +kernel
theorem dL_law_397 : decode cL_law 397 = .ok (.iconst 3, 1) := by decide +kernel
theorem dL_law_398 : decode cL_law 398 = .ok (.iadd, 1) := by decide +kernel
theorem dL_law_399 : decode cL_law 399 = .ok (.iaload, 1) := by decide +kernel
theorem dL_law_400 : decode cL_law 400 = .ok (.invokevirtual 35, 3) := by decide +kernel
theorem dL_law_403 : decode cL_law 403 = .ok (.aload_n 2, 1) := by decide +kernel
theorem dL_law_404 : decode cL_law 404 = .ok (.aload_n 0, 1) := by decide +kernel
theorem dL_law_405 : decode cL_law 405 = .ok (.iload_n 3, 1) := by decide +kernel
theorem dL_law_406 : decode cL_law 406 = .ok (.iconst 1, 1) := by decide +kernel
theorem dL_law_407 : decode cL_law 407 = .ok (.iadd, 1) := by decide +kernel
theorem dL_law_408 : decode cL_law 408 = .ok (.iaload, 1) := by decide +kernel
theorem dL_law_409 : decode cL_law 409 = .ok (.aload_n 0, 1) := by decide +kernel
theorem dL_law_410 : decode cL_law 410 = .ok (.iload_n 3, 1) := by decide +kernel
theorem dL_law_411 : decode cL_law 411 = .ok (.iconst 2, 1) := by decide +kernel
theorem dL_law_412 : decode cL_law 412 = .ok (.iadd, 1) := by decide +kernel
theorem dL_law_413 : decode cL_law 413 = .ok (.iaload, 1) := by decide +kernel
theorem dL_law_414 : decode cL_law 414 = .ok (.aload_n 0, 1) := by decide +kernel
theorem dL_law_415 : decode cL_law 415 = .ok (.iload_n 3, 1) := by decide +kernel
theorem dL_law_416 : decode cL_law 416 = .ok (.iconst 3, 1) := by decide +kernel
theorem dL_law_417 : decode cL_law 417 = .ok (.iadd, 1) := by decide +kernel
theorem dL_law_418 : decode cL_law 418 = .ok (.iaload, 1) := by decide +kernel
theorem dL_law_419 : decode cL_law 419 = .ok (.invokevirtual 39, 3) := by decide +kernel
theorem dL_law_422 : decode cL_law 422 = .ok (.lcmp, 1) := by decide +kernel
theorem dL_law_423 : decode cL_law 423 = .ok (.ifCond .eq 951, 3) := by decide +kernel
theorem dL_law_426 : decode cL_law 426 = .ok (.iconst 0, 1) := by decide +kernel
theorem dL_law_427 : decode cL_law 427 = .ok (.ireturn, 1) := by decide +kernel
theorem dL_law_428 : decode cL_law 428 = .ok (.aload_n 1, 1) := by decide +kernel
theorem dL_law_429 : decode cL_law 429 = .ok (.aload_n 0, 1) := by decide +kernel
theorem dL_law_430 : decode cL_law 430 = .ok (.iload_n 3, 1) := by decide +kernel
theorem dL_law_431 : decode cL_law 431 = .ok (.iconst 1, 1) := by decide +kernel
theorem dL_law_432 : decode cL_law 432 = .ok (.iadd, 1) := by decide +kernel
theorem dL_law_433 : decode cL_law 433 = .ok (.iaload, 1) := by decide +kernel
theorem dL_law_434 : decode cL_law 434 = .ok (.aload_n 0, 1) := by decide +kernel
theorem dL_law_435 : decode cL_law 435 = .ok (.iload_n 3, 1) := by decide +kernel
theorem dL_law_436 : decode cL_law 436 = .ok (.iconst 2, 1) := by decide +kernel
theorem dL_law_437 : decode cL_law 437 = .ok (.iadd, 1) := by decide +kernel
theorem dL_law_438 : decode cL_law 438 = .ok (.iaload, 1) := by decide +kernel
theorem dL_law_439 : decode cL_law 439 = .ok (.invokevirtual 40, 3) := by decide +kernel
theorem dL_law_442 : decode cL_law 442 = .ok (.aload_n 2, 1) := by decide +kernel
theorem dL_law_443 : decode cL_law 443 = .ok (.aload_n 0, 1) := by decide +kernel
theorem dL_law_444 : decode cL_law 444 = .ok (.iload_n 3, 1) := by decide +kernel
theorem dL_law_445 : decode cL_law 445 = .ok (.iconst 1, 1) := by decide +kernel
theorem dL_law_446 : decode cL_law 446 = .ok (.iadd, 1) := by decide +kernel
theorem dL_law_447 : decode cL_law 447 = .ok (.iaload, 1) := by decide +kernel
theorem dL_law_448 : decode cL_law 448 = .ok (.aload_n 0, 1) := by decide +kernel
theorem dL_law_449 : decode cL_law 449 = .ok (.iload_n 3, 1) := by decide +kernel
theorem dL_law_450 : decode cL_law 450 = .ok (.iconst 2, 1) := by decide +kernel
theorem dL_law_451 : decode cL_law 451 = .ok (.iadd, 1) := by decide +kernel
theorem dL_law_452 : decode cL_law 452 = .ok (.iaload, 1) := by decide +kernel
theorem dL_law_453 : decode cL_law 453 = .ok (.invokevirtual 43, 3) := by decide +kernel
theorem dL_law_456 : decode cL_law 456 = .ok (.lcmp, 1) := by decide +kernel
theorem dL_law_457 : decode cL_law 457 = .ok (.ifCond .eq 917, 3) := by decide +kernel
theorem dL_law_460 : decode cL_law 460 = .ok (.iconst 0, 1) := by decide +kernel
theorem dL_law_461 : decode cL_law 461 = .ok (.ireturn, 1) := by decide +kernel
theorem dL_law_462 : decode cL_law 462 = .ok (.aload_n 1, 1) := by decide +kernel
theorem dL_law_463 : decode cL_law 463 = .ok (.aload_n 0, 1) := by decide +kernel
theorem dL_law_464 : decode cL_law 464 = .ok (.iload_n 3, 1) := by decide +kernel
theorem dL_law_465 : decode cL_law 465 = .ok (.iconst 1, 1) := by decide +kernel
theorem dL_law_466 : decode cL_law 466 = .ok (.iadd, 1) := by decide +kernel
theorem dL_law_467 : decode cL_law 467 = .ok (.iaload, 1) := by decide +kernel
theorem dL_law_468 : decode cL_law 468 = .ok (.aload_n 0, 1) := by decide +kernel
theorem dL_law_469 : decode cL_law 469 = .ok (.iload_n 3, 1) := by decide +kernel
theorem dL_law_470 : decode cL_law 470 = .ok (.iconst 2, 1) := by decide +kernel
theorem dL_law_471 : decode cL_law 471 = .ok (.iadd, 1) := by decide +kernel
theorem dL_law_472 : decode cL_law 472 = .ok (.iaload, 1) := by decide +kernel
theorem dL_law_473 : decode cL_law 473 = .ok (.aload_n 0, 1) := by decide +kernel
theorem dL_law_474 : decode cL_law 474 = .ok (.iload_n 3, 1) := by decide +kernel
theorem dL_law_475 : decode cL_law 475 = .ok (.iconst 3, 1) := by decide +kernel
theorem dL_law_476 : decode cL_law 476 = .ok (.iadd, 1) := by decide +kernel
theorem dL_law_477 : decode cL_law 477 = .ok (.iaload, 1) := by decide +kernel
theorem dL_law_478 : decode cL_law 478 = .ok (.invokevirtual 44, 3) := by decide +kernel
theorem dL_law_481 : decode cL_law 481 = .ok (.aload_n 2, 1) := by decide +kernel
theorem dL_law_482 : decode cL_law 482 = .ok (.aload_n 0, 1) := by decide +kernel
theorem dL_law_483 : decode cL_law 483 = .ok (.iload_n 3, 1) := by decide +kernel
theorem dL_law_484 : decode cL_law 484 = .ok (.iconst 1, 1) := by decide +kernel
theorem dL_law_485 : decode cL_law 485 = .ok (.iadd, 1) := by decide +kernel
theorem dL_law_486 : decode cL_law 486 = .ok (.iaload, 1) := by decide +kernel
theorem dL_law_487 : decode cL_law 487 = .ok (.aload_n 0, 1) := by decide +kernel
theorem dL_law_488 : decode cL_law 488 = .ok (.iload_n 3, 1) := by decide +kernel
theorem dL_law_489 : decode cL_law 489 = .ok (.iconst 2, 1) := by decide +kernel
theorem dL_law_490 : decode cL_law 490 = .ok (.iadd, 1) := by decide +kernel
theorem dL_law_491 : decode cL_law 491 = .ok (.iaload, 1) := by decide +kernel
theorem dL_law_492 : decode cL_law 492 = .ok (.aload_n 0, 1) := by decide +kernel
theorem dL_law_493 : decode cL_law 493 = .ok (.iload_n 3, 1) := by decide +kernel
theorem dL_law_494 : decode cL_law 494 = .ok (.iconst 3, 1) := by decide +kernel
theorem dL_law_495 : decode cL_law 495 = .ok (.iadd, 1) := by decide +kernel
theorem dL_law_496 : decode cL_law 496 = .ok (.iaload, 1) := by decide +kernel
theorem dL_law_497 : decode cL_law 497 = .ok (.invokevirtual 47, 3) := by decide +kernel
theorem dL_law_500 : decode cL_law 500 = .ok (.lcmp, 1) := by decide +kernel
theorem dL_law_501 : decode cL_law 501 = .ok (.ifCond .eq 873, 3) := by decide +kernel
theorem dL_law_504 : decode cL_law 504 = .ok (.iconst 0, 1) := by decide +kernel
theorem dL_law_505 : decode cL_law 505 = .ok (.ireturn, 1) := by decide +kernel
theorem dL_law_506 : decode cL_law 506 = .ok (.aload_n 1, 1) := by decide +kernel
theorem dL_law_507 : decode cL_law 507 = .ok (.aload_n 0, 1) := by decide +kernel
theorem dL_law_508 : decode cL_law 508 = .ok (.iload_n 3, 1) := by decide +kernel
theorem dL_law_509 : decode cL_law 509 = .ok (.iconst 1, 1) := by decide +kernel
theorem dL_law_510 : decode cL_law 510 = .ok (.iadd, 1) := by decide +kernel
theorem dL_law_511 : decode cL_law 511 = .ok (.iaload, 1) := by decide +kernel
theorem dL_law_512 : decode cL_law 512 = .ok (.aload_n 0, 1) := by decide +kernel
theorem dL_law_513 : decode cL_law 513 = .ok (.iload_n 3, 1) := by decide +kernel
theorem dL_law_514 : decode cL_law 514 = .ok (.iconst 2, 1) := by decide +kernel
theorem dL_law_515 : decode cL_law 515 = .ok (.iadd, 1) := by decide +kernel
theorem dL_law_516 : decode cL_law 516 = .ok (.iaload, 1) := by decide +kernel
theorem dL_law_517 : decode cL_law 517 = .ok (.invokevirtual 48, 3) := by decide +kernel
theorem dL_law_520 : decode cL_law 520 = .ok (.aload_n 2, 1) := by decide +kernel
theorem dL_law_521 : decode cL_law 521 = .ok (.aload_n 0, 1) := by decide +kernel
theorem dL_law_522 : decode cL_law 522 = .ok (.iload_n 3, 1) := by decide +kernel
theorem dL_law_523 : decode cL_law 523 = .ok (.iconst 1, 1) := by decide +kernel
theorem dL_law_524 : decode cL_law 524 = .ok (.iadd, 1) := by decide +kernel
theorem dL_law_525 : decode cL_law 525 = .ok (.iaload, 1) := by decide +kernel
theorem dL_law_526 : decode cL_law 526 = .ok (.aload_n 0, 1) := by decide +kernel
theorem dL_law_527 : decode cL_law 527 = .ok (.iload_n 3, 1) := by decide +kernel
theorem dL_law_528 : decode cL_law 528 = .ok (.iconst 2, 1) := by decide +kernel
theorem dL_law_529 : decode cL_law 529 = .ok (.iadd, 1) := by decide +kernel
theorem dL_law_530 : decode cL_law 530 = .ok (.iaload, 1) := by decide +kernel
theorem dL_law_531 : decode cL_law 531 = .ok (.invokevirtual 51, 3) := by decide +kernel
theorem dL_law_534 : decode cL_law 534 = .ok (.lcmp, 1) := by decide +kernel
theorem dL_law_535 : decode cL_law 535 = .ok (.ifCond .eq 839, 3) := by decide +kernel
theorem dL_law_538 : decode cL_law 538 = .ok (.iconst 0, 1) := by decide +kernel
theorem dL_law_539 : decode cL_law 539 = .ok (.ireturn, 1) := by decide +kernel
theorem dL_law_540 : decode cL_law 540 = .ok (.aload_n 1, 1) := by decide +kernel
theorem dL_law_541 : decode cL_law 541 = .ok (.invokevirtual 52, 3) := by decide +kernel
theorem dL_law_544 : decode cL_law 544 = .ok (.aload_n 2, 1) := by decide +kernel
theorem dL_law_545 : decode cL_law 545 = .ok (.invokevirtual 56, 3) := by decide +kernel
theorem dL_law_548 : decode cL_law 548 = .ok (.lcmp, 1) := by decide +kernel
theorem dL_law_549 : decode cL_law 549 = .ok (.ifCond .eq 825, 3) := by decide +kernel
theorem dL_law_552 : decode cL_law 552 = .ok (.iconst 0, 1) := by decide +kernel
theorem dL_law_553 : decode cL_law 553 = .ok (.ireturn, 1) := by decide +kernel
theorem dL_law_554 : decode cL_law 554 = .ok (.aload_n 1, 1) := by decide +kernel
theorem dL_law_555 : decode cL_law 555 = .ok (.aload_n 0, 1) := by decide +kernel
theorem dL_law_556 : decode cL_law 556 = .ok (.iload_n 3, 1) := by decide +kernel
theorem dL_law_557 : decode cL_law 557 = .ok (.iconst 1, 1) := by decide +kernel
theorem dL_law_558 : decode cL_law 558 = .ok (.iadd, 1) := by decide +kernel
theorem dL_law_559 : decode cL_law 559 = .ok (.iaload, 1) := by decide +kernel
theorem dL_law_560 : decode cL_law 560 = .ok (.aload_n 0, 1) := by decide +kernel
theorem dL_law_561 : decode cL_law 561 = .ok (.iload_n 3, 1) := by decide +kernel
theorem dL_law_562 : decode cL_law 562 = .ok (.iconst 2, 1) := by decide +kernel
theorem dL_law_563 : decode cL_law 563 = .ok (.iadd, 1) := by decide +kernel
theorem dL_law_564 : decode cL_law 564 = .ok (.iaload, 1) := by decide +kernel
theorem dL_law_565 : decode cL_law 565 = .ok (.invokevirtual 57, 3) := by decide +kernel
theorem dL_law_568 : decode cL_law 568 = .ok (.aload_n 2, 1) := by decide +kernel
theorem dL_law_569 : decode cL_law 569 = .ok (.aload_n 0, 1) := by decide +kernel
theorem dL_law_570 : decode cL_law 570 = .ok (.iload_n 3, 1) := by decide +kernel
theorem dL_law_571 : decode cL_law 571 = .ok (.iconst 1, 1) := by decide +kernel
theorem dL_law_572 : decode cL_law 572 = .ok (.iadd, 1) := by decide +kernel
theorem dL_law_573 : decode cL_law 573 = .ok (.iaload, 1) := by decide +kernel
theorem dL_law_574 : decode cL_law 574 = .ok (.aload_n 0, 1) := by decide +kernel
theorem dL_law_575 : decode cL_law 575 = .ok (.iload_n 3, 1) := by decide +kernel
theorem dL_law_576 : decode cL_law 576 = .ok (.iconst 2, 1) := by decide +kernel
theorem dL_law_577 : decode cL_law 577 = .ok (.iadd, 1) := by decide +kernel
theorem dL_law_578 : decode cL_law 578 = .ok (.iaload, 1) := by decide +kernel
theorem dL_law_579 : decode cL_law 579 = .ok (.invokevirtual 60, 3) := by decide +kernel
theorem dL_law_582 : decode cL_law 582 = .ok (.lcmp, 1) := by decide +kernel
theorem dL_law_583 : decode cL_law 583 = .ok (.ifCond .eq 791, 3) := by decide +kernel
theorem dL_law_586 : decode cL_law 586 = .ok (.iconst 0, 1) := by decide +kernel
theorem dL_law_587 : decode cL_law 587 = .ok (.ireturn, 1) := by decide +kernel
theorem dL_law_588 : decode cL_law 588 = .ok (.aload_n 1, 1) := by decide +kernel
theorem dL_law_589 : decode cL_law 589 = .ok (.aload_n 0, 1) := by decide +kernel
theorem dL_law_590 : decode cL_law 590 = .ok (.iload_n 3, 1) := by decide +kernel
theorem dL_law_591 : decode cL_law 591 = .ok (.iconst 1, 1) := by decide +kernel
theorem dL_law_592 : decode cL_law 592 = .ok (.iadd, 1) := by decide +kernel
theorem dL_law_593 : decode cL_law 593 = .ok (.iaload, 1) := by decide +kernel
theorem dL_law_594 : decode cL_law 594 = .ok (.aload_n 0, 1) := by decide +kernel
theorem dL_law_595 : decode cL_law 595 = .ok (.iload_n 3, 1) := by decide +kernel
theorem dL_law_596 : decode cL_law 596 = .ok (.iconst 2, 1) := by decide +kernel
theorem dL_law_597 : decode cL_law 597 = .ok (.iadd, 1) := by decide +kernel
theorem dL_law_598 : decode cL_law 598 = .ok (.iaload, 1) := by decide +kernel
theorem dL_law_599 : decode cL_law 599 = .ok (.invokevirtual 61, 3) := by decide +kernel
theorem dL_law_602 : decode cL_law 602 = .ok (.aload_n 2, 1) := by decide +kernel
theorem dL_law_603 : decode cL_law 603 = .ok (.aload_n 0, 1) := by decide +kernel
theorem dL_law_604 : decode cL_law 604 = .ok (.iload_n 3, 1) := by decide +kernel
theorem dL_law_605 : decode cL_law 605 = .ok (.iconst 1, 1) := by decide +kernel
theorem dL_law_606 : decode cL_law 606 = .ok (.iadd, 1) := by decide +kernel
theorem dL_law_607 : decode cL_law 607 = .ok (.iaload, 1) := by decide +kernel
theorem dL_law_608 : decode cL_law 608 = .ok (.aload_n 0, 1) := by decide +kernel
theorem dL_law_609 : decode cL_law 609 = .ok (.iload_n 3, 1) := by decide +kernel
theorem dL_law_610 : decode cL_law 610 = .ok (.iconst 2, 1) := by decide +kernel
theorem dL_law_611 : decode cL_law 611 = .ok (.iadd, 1) := by decide +kernel
theorem dL_law_612 : decode cL_law 612 = .ok (.iaload, 1) := by decide +kernel
theorem dL_law_613 : decode cL_law 613 = .ok (.invokevirtual 64, 3) := by decide +kernel
theorem dL_law_616 : decode cL_law 616 = .ok (.lcmp, 1) := by decide +kernel
theorem dL_law_617 : decode cL_law 617 = .ok (.ifCond .eq 757, 3) := by decide +kernel
theorem dL_law_620 : decode cL_law 620 = .ok (.iconst 0, 1) := by decide +kernel
theorem dL_law_621 : decode cL_law 621 = .ok (.ireturn, 1) := by decide +kernel
theorem dL_law_622 : decode cL_law 622 = .ok (.aload_n 1, 1) := by decide +kernel
theorem dL_law_623 : decode cL_law 623 = .ok (.aload_n 0, 1) := by decide +kernel
theorem dL_law_624 : decode cL_law 624 = .ok (.iload_n 3, 1) := by decide +kernel
theorem dL_law_625 : decode cL_law 625 = .ok (.iconst 1, 1) := by decide +kernel
theorem dL_law_626 : decode cL_law 626 = .ok (.iadd, 1) := by decide +kernel
theorem dL_law_627 : decode cL_law 627 = .ok (.iaload, 1) := by decide +kernel
theorem dL_law_628 : decode cL_law 628 = .ok (.aload_n 0, 1) := by decide +kernel
theorem dL_law_629 : decode cL_law 629 = .ok (.iload_n 3, 1) := by decide +kernel
theorem dL_law_630 : decode cL_law 630 = .ok (.iconst 2, 1) := by decide +kernel
theorem dL_law_631 : decode cL_law 631 = .ok (.iadd, 1) := by decide +kernel
theorem dL_law_632 : decode cL_law 632 = .ok (.iaload, 1) := by decide +kernel
theorem dL_law_633 : decode cL_law 633 = .ok (.invokevirtual 65, 3) := by decide +kernel
theorem dL_law_636 : decode cL_law 636 = .ok (.aload_n 2, 1) := by decide +kernel
theorem dL_law_637 : decode cL_law 637 = .ok (.aload_n 0, 1) := by decide +kernel
theorem dL_law_638 : decode cL_law 638 = .ok (.iload_n 3, 1) := by decide +kernel
theorem dL_law_639 : decode cL_law 639 = .ok (.iconst 1, 1) := by decide +kernel
theorem dL_law_640 : decode cL_law 640 = .ok (.iadd, 1) := by decide +kernel
theorem dL_law_641 : decode cL_law 641 = .ok (.iaload, 1) := by decide +kernel
theorem dL_law_642 : decode cL_law 642 = .ok (.aload_n 0, 1) := by decide +kernel
theorem dL_law_643 : decode cL_law 643 = .ok (.iload_n 3, 1) := by decide +kernel
theorem dL_law_644 : decode cL_law 644 = .ok (.iconst 2, 1) := by decide +kernel
theorem dL_law_645 : decode cL_law 645 = .ok (.iadd, 1) := by decide +kernel
theorem dL_law_646 : decode cL_law 646 = .ok (.iaload, 1) := by decide +kernel
theorem dL_law_647 : decode cL_law 647 = .ok (.invokevirtual 68, 3) := by decide +kernel
theorem dL_law_650 : decode cL_law 650 = .ok (.lcmp, 1) := by decide +kernel
theorem dL_law_651 : decode cL_law 651 = .ok (.ifCond .eq 723, 3) := by decide +kernel
theorem dL_law_654 : decode cL_law 654 = .ok (.iconst 0, 1) := by decide +kernel
theorem dL_law_655 : decode cL_law 655 = .ok (.ireturn, 1) := by decide +kernel
theorem dL_law_656 : decode cL_law 656 = .ok (.aload_n 1, 1) := by decide +kernel
theorem dL_law_657 : decode cL_law 657 = .ok (.aload_n 0, 1) := by decide +kernel
theorem dL_law_658 : decode cL_law 658 = .ok (.iload_n 3, 1) := by decide +kernel
theorem dL_law_659 : decode cL_law 659 = .ok (.iconst 1, 1) := by decide +kernel
theorem dL_law_660 : decode cL_law 660 = .ok (.iadd, 1) := by decide +kernel
theorem dL_law_661 : decode cL_law 661 = .ok (.iaload, 1) := by decide +kernel
theorem dL_law_662 : decode cL_law 662 = .ok (.aload_n 0, 1) := by decide +kernel
theorem dL_law_663 : decode cL_law 663 = .ok (.iload_n 3, 1) := by decide +kernel
theorem dL_law_664 : decode cL_law 664 = .ok (.iconst 2, 1) := by decide +kernel
theorem dL_law_665 : decode cL_law 665 = .ok (.iadd, 1) := by decide +kernel
theorem dL_law_666 : decode cL_law 666 = .ok (.iaload, 1) := by decide +kernel
theorem dL_law_667 : decode cL_law 667 = .ok (.aload_n 0, 1) := by decide +kernel
theorem dL_law_668 : decode cL_law 668 = .ok (.iload_n 3, 1) := by decide +kernel
theorem dL_law_669 : decode cL_law 669 = .ok (.iconst 3, 1) := by decide +kernel
theorem dL_law_670 : decode cL_law 670 = .ok (.iadd, 1) := by decide +kernel
theorem dL_law_671 : decode cL_law 671 = .ok (.iaload, 1) := by decide +kernel
theorem dL_law_672 : decode cL_law 672 = .ok (.invokevirtual 69, 3) := by decide +kernel
theorem dL_law_675 : decode cL_law 675 = .ok (.aload_n 2, 1) := by decide +kernel
theorem dL_law_676 : decode cL_law 676 = .ok (.aload_n 0, 1) := by decide +kernel
theorem dL_law_677 : decode cL_law 677 = .ok (.iload_n 3, 1) := by decide +kernel
theorem dL_law_678 : decode cL_law 678 = .ok (.iconst 1, 1) := by decide +kernel
theorem dL_law_679 : decode cL_law 679 = .ok (.iadd, 1) := by decide +kernel
theorem dL_law_680 : decode cL_law 680 = .ok (.iaload, 1) := by decide +kernel
theorem dL_law_681 : decode cL_law 681 = .ok (.aload_n 0, 1) := by decide +kernel
theorem dL_law_682 : decode cL_law 682 = .ok (.iload_n 3, 1) := by decide +kernel
theorem dL_law_683 : decode cL_law 683 = .ok (.iconst 2, 1) := by decide +kernel
theorem dL_law_684 : decode cL_law 684 = .ok (.iadd, 1) := by decide +kernel
theorem dL_law_685 : decode cL_law 685 = .ok (.iaload, 1) := by decide +kernel
theorem dL_law_686 : decode cL_law 686 = .ok (.aload_n 0, 1) := by decide +kernel
theorem dL_law_687 : decode cL_law 687 = .ok (.iload_n 3, 1) := by decide +kernel
theorem dL_law_688 : decode cL_law 688 = .ok (.iconst 3, 1) := by decide +kernel
theorem dL_law_689 : decode cL_law 689 = .ok (.iadd, 1) := by decide +kernel
theorem dL_law_690 : decode cL_law 690 = .ok (.iaload, 1) := by decide +kernel
theorem dL_law_691 : decode cL_law 691 = .ok (.invokevirtual 72, 3) := by decide +kernel
theorem dL_law_694 : decode cL_law 694 = .ok (.lcmp, 1) := by decide +kernel
theorem dL_law_695 : decode cL_law 695 = .ok (.ifCond .eq 679, 3) := by decide +kernel
theorem dL_law_698 : decode cL_law 698 = .ok (.iconst 0, 1) := by decide +kernel
theorem dL_law_699 : decode cL_law 699 = .ok (.ireturn, 1) := by decide +kernel
theorem dL_law_700 : decode cL_law 700 = .ok (.aload_n 1, 1) := by decide +kernel
theorem dL_law_701 : decode cL_law 701 = .ok (.aload_n 0, 1) := by decide +kernel
theorem dL_law_702 : decode cL_law 702 = .ok (.iload_n 3, 1) := by decide +kernel
theorem dL_law_703 : decode cL_law 703 = .ok (.iconst 1, 1) := by decide +kernel
theorem dL_law_704 : decode cL_law 704 = .ok (.iadd, 1) := by decide +kernel
theorem dL_law_705 : decode cL_law 705 = .ok (.iaload, 1) := by decide +kernel
theorem dL_law_706 : decode cL_law 706 = .ok (.aload_n 0, 1) := by decide +kernel
theorem dL_law_707 : decode cL_law 707 = .ok (.iload_n 3, 1) := by decide +kernel
theorem dL_law_708 : decode cL_law 708 = .ok (.iconst 2, 1) := by decide +kernel
theorem dL_law_709 : decode cL_law 709 = .ok (.iadd, 1) := by decide +kernel
theorem dL_law_710 : decode cL_law 710 = .ok (.iaload, 1) := by decide +kernel
theorem dL_law_711 : decode cL_law 711 = .ok (.invokevirtual 73, 3) := by decide +kernel
theorem dL_law_714 : decode cL_law 714 = .ok (.aload_n 2, 1) := by decide +kernel
theorem dL_law_715 : decode cL_law 715 = .ok (.aload_n 0, 1) := by decide +kernel
theorem dL_law_716 : decode cL_law 716 = .ok (.iload_n 3, 1) := by decide +kernel
theorem dL_law_717 : decode cL_law 717 = .ok (.iconst 1, 1) := by decide +kernel
theorem dL_law_718 : decode cL_law 718 = .ok (.iadd, 1) := by decide +kernel
theorem dL_law_719 : decode cL_law 719 = .ok (.iaload, 1) := by decide +kernel
theorem dL_law_720 : decode cL_law 720 = .ok (.aload_n 0, 1) := by decide +kernel
theorem dL_law_721 : decode cL_law 721 = .ok (.iload_n 3, 1) := by decide +kernel
theorem dL_law_722 : decode cL_law 722 = .ok (.iconst 2, 1) := by decide +kernel
theorem dL_law_723 : decode cL_law 723 = .ok (.iadd, 1) := by decide +kernel
theorem dL_law_724 : decode cL_law 724 = .ok (.iaload, 1) := by decide +kernel
theorem dL_law_725 : decode cL_law 725 = .ok (.invokevirtual 76, 3) := by decide +kernel
theorem dL_law_728 : decode cL_law 728 = .ok (.lcmp, 1) := by decide +kernel
theorem dL_law_729 : decode cL_law 729 = .ok (.ifCond .eq 645, 3) := by decide +kernel
theorem dL_law_732 : decode cL_law 732 = .ok (.iconst 0, 1) := by decide +kernel
theorem dL_law_733 : decode cL_law 733 = .ok (.ireturn, 1) := by decide +kernel
theorem dL_law_734 : decode cL_law 734 = .ok (.aload_n 1, 1) := by decide +kernel
theorem dL_law_735 : decode cL_law 735 = .ok (.aload_n 0, 1) := by decide +kernel
theorem dL_law_736 : decode cL_law 736 = .ok (.iload_n 3, 1) := by decide +kernel
theorem dL_law_737 : decode cL_law 737 = .ok (.iconst 1, 1) := by decide +kernel
theorem dL_law_738 : decode cL_law 738 = .ok (.iadd, 1) := by decide +kernel
theorem dL_law_739 : decode cL_law 739 = .ok (.iaload, 1) := by decide +kernel
theorem dL_law_740 : decode cL_law 740 = .ok (.aload_n 0, 1) := by decide +kernel
theorem dL_law_741 : decode cL_law 741 = .ok (.iload_n 3, 1) := by decide +kernel
theorem dL_law_742 : decode cL_law 742 = .ok (.iconst 2, 1) := by decide +kernel
theorem dL_law_743 : decode cL_law 743 = .ok (.iadd, 1) := by decide +kernel
theorem dL_law_744 : decode cL_law 744 = .ok (.iaload, 1) := by decide +kernel
theorem dL_law_745 : decode cL_law 745 = .ok (.aload_n 0, 1) := by decide +kernel
theorem dL_law_746 : decode cL_law 746 = .ok (.iload_n 3, 1) := by decide +kernel
theorem dL_law_747 : decode cL_law 747 = .ok (.iconst 3, 1) := by decide +kernel
theorem dL_law_748 : decode cL_law 748 = .ok (.iadd, 1) := by decide +kernel
theorem dL_law_749 : decode cL_law 749 = .ok (.iaload, 1) := by decide +kernel
theorem dL_law_750 : decode cL_law 750 = .ok (.invokevirtual 77, 3) := by decide +kernel
theorem dL_law_753 : decode cL_law 753 = .ok (.aload_n 2, 1) := by decide +kernel
theorem dL_law_754 : decode cL_law 754 = .ok (.aload_n 0, 1) := by decide +kernel
theorem dL_law_755 : decode cL_law 755 = .ok (.iload_n 3, 1) := by decide +kernel
theorem dL_law_756 : decode cL_law 756 = .ok (.iconst 1, 1) := by decide +kernel
theorem dL_law_757 : decode cL_law 757 = .ok (.iadd, 1) := by decide +kernel
theorem dL_law_758 : decode cL_law 758 = .ok (.iaload, 1) := by decide +kernel
theorem dL_law_759 : decode cL_law 759 = .ok (.aload_n 0, 1) := by decide +kernel
theorem dL_law_760 : decode cL_law 760 = .ok (.iload_n 3, 1) := by decide +kernel
theorem dL_law_761 : decode cL_law 761 = .ok (.iconst 2, 1) := by decide +kernel
theorem dL_law_762 : decode cL_law 762 = .ok (.iadd, 1) := by decide +kernel
theorem dL_law_763 : decode cL_law 763 = .ok (.iaload, 1) := by decide +kernel
theorem dL_law_764 : decode cL_law 764 = .ok (.aload_n 0, 1) := by decide +kernel
theorem dL_law_765 : decode cL_law 765 = .ok (.iload_n 3, 1) := by decide +kernel
theorem dL_law_766 : decode cL_law 766 = .ok (.iconst 3, 1) := by decide +kernel
theorem dL_law_767 : decode cL_law 767 = .ok (.iadd, 1) := by decide +kernel
theorem dL_law_768 : decode cL_law 768 = .ok (.iaload, 1) := by decide +kernel
theorem dL_law_769 : decode cL_law 769 = .ok (.invokevirtual 80, 3) := by decide +kernel
theorem dL_law_772 : decode cL_law 772 = .ok (.lcmp, 1) := by decide +kernel
theorem dL_law_773 : decode cL_law 773 = .ok (.ifCond .eq 601, 3) := by decide +kernel
theorem dL_law_776 : decode cL_law 776 = .ok (.iconst 0, 1) := by decide +kernel
theorem dL_law_777 : decode cL_law 777 = .ok (.ireturn, 1) := by decide +kernel
theorem dL_law_778 : decode cL_law 778 = .ok (.aload_n 1, 1) := by decide +kernel
theorem dL_law_779 : decode cL_law 779 = .ok (.aload_n 0, 1) := by decide +kernel
theorem dL_law_780 : decode cL_law 780 = .ok (.iload_n 3, 1) := by decide +kernel
theorem dL_law_781 : decode cL_law 781 = .ok (.iconst 1, 1) := by decide +kernel
theorem dL_law_782 : decode cL_law 782 = .ok (.iadd, 1) := by decide +kernel
theorem dL_law_783 : decode cL_law 783 = .ok (.iaload, 1) := by decide +kernel
theorem dL_law_784 : decode cL_law 784 = .ok (.invokevirtual 81, 3) := by decide +kernel
theorem dL_law_787 : decode cL_law 787 = .ok (.aload_n 2, 1) := by decide +kernel
theorem dL_law_788 : decode cL_law 788 = .ok (.aload_n 0, 1) := by decide +kernel
theorem dL_law_789 : decode cL_law 789 = .ok (.iload_n 3, 1) := by decide +kernel
theorem dL_law_790 : decode cL_law 790 = .ok (.iconst 1, 1) := by decide +kernel
theorem dL_law_791 : decode cL_law 791 = .ok (.iadd, 1) := by decide +kernel
theorem dL_law_792 : decode cL_law 792 = .ok (.iaload, 1) := by decide +kernel
theorem dL_law_793 : decode cL_law 793 = .ok (.invokevirtual 84, 3) := by decide +kernel
theorem dL_law_796 : decode cL_law 796 = .ok (.lcmp, 1) := by decide +kernel
theorem dL_law_797 : decode cL_law 797 = .ok (.ifCond .eq 577, 3) := by decide +kernel
theorem dL_law_800 : decode cL_law 800 = .ok (.iconst 0, 1) := by decide +kernel
theorem dL_law_801 : decode cL_law 801 = .ok (.ireturn, 1) := by decide +kernel
theorem dL_law_802 : decode cL_law 802 = .ok (.aload_n 1, 1) := by decide +kernel
theorem dL_law_803 : decode cL_law 803 = .ok (.aload_n 0, 1) := by decide +kernel
theorem dL_law_804 : decode cL_law 804 = .ok (.iload_n 3, 1) := by decide +kernel
theorem dL_law_805 : decode cL_law 805 = .ok (.iconst 1, 1) := by decide +kernel
theorem dL_law_806 : decode cL_law 806 = .ok (.iadd, 1) := by decide +kernel
theorem dL_law_807 : decode cL_law 807 = .ok (.iaload, 1) := by decide +kernel
theorem dL_law_808 : decode cL_law 808 = .ok (.aload_n 0, 1) := by decide +kernel
theorem dL_law_809 : decode cL_law 809 = .ok (.iload_n 3, 1) := by decide +kernel
theorem dL_law_810 : decode cL_law 810 = .ok (.iconst 2, 1) := by decide +kernel
theorem dL_law_811 : decode cL_law 811 = .ok (.iadd, 1) := by decide +kernel
theorem dL_law_812 : decode cL_law 812 = .ok (.iaload, 1) := by decide +kernel
theorem dL_law_813 : decode cL_law 813 = .ok (.invokevirtual 85, 3) := by decide +kernel
theorem dL_law_816 : decode cL_law 816 = .ok (.aload_n 2, 1) := by decide +kernel
theorem dL_law_817 : decode cL_law 817 = .ok (.aload_n 0, 1) := by decide +kernel
theorem dL_law_818 : decode cL_law 818 = .ok (.iload_n 3, 1) := by decide +kernel
theorem dL_law_819 : decode cL_law 819 = .ok (.iconst 1, 1) := by decide +kernel
theorem dL_law_820 : decode cL_law 820 = .ok (.iadd, 1) := by decide +kernel
theorem dL_law_821 : decode cL_law 821 = .ok (.iaload, 1) := by decide +kernel
theorem dL_law_822 : decode cL_law 822 = .ok (.aload_n 0, 1) := by decide +kernel
theorem dL_law_823 : decode cL_law 823 = .ok (.iload_n 3, 1) := by decide +kernel
theorem dL_law_824 : decode cL_law 824 = .ok (.iconst 2, 1) := by decide +kernel
theorem dL_law_825 : decode cL_law 825 = .ok (.iadd, 1) := by decide +kernel
theorem dL_law_826 : decode cL_law 826 = .ok (.iaload, 1) := by decide +kernel
theorem dL_law_827 : decode cL_law 827 = .ok (.invokevirtual 88, 3) := by decide +kernel
theorem dL_law_830 : decode cL_law 830 = .ok (.lcmp, 1) := by decide +kernel
theorem dL_law_831 : decode cL_law 831 = .ok (.ifCond .eq 543, 3) := by decide +kernel
theorem dL_law_834 : decode cL_law 834 = .ok (.iconst 0, 1) := by decide +kernel
theorem dL_law_835 : decode cL_law 835 = .ok (.ireturn, 1) := by decide +kernel
theorem dL_law_836 : decode cL_law 836 = .ok (.aload_n 1, 1) := by decide +kernel
theorem dL_law_837 : decode cL_law 837 = .ok (.aload_n 0, 1) := by decide +kernel
theorem dL_law_838 : decode cL_law 838 = .ok (.iload_n 3, 1) := by decide +kernel
theorem dL_law_839 : decode cL_law 839 = .ok (.iconst 1, 1) := by decide +kernel
theorem dL_law_840 : decode cL_law 840 = .ok (.iadd, 1) := by decide +kernel
theorem dL_law_841 : decode cL_law 841 = .ok (.iaload, 1) := by decide +kernel
theorem dL_law_842 : decode cL_law 842 = .ok (.aload_n 0, 1) := by decide +kernel
theorem dL_law_843 : decode cL_law 843 = .ok (.iload_n 3, 1) := by decide +kernel
theorem dL_law_844 : decode cL_law 844 = .ok (.iconst 2, 1) := by decide +kernel
theorem dL_law_845 : decode cL_law 845 = .ok (.iadd, 1) := by decide +kernel
theorem dL_law_846 : decode cL_law 846 = .ok (.iaload, 1) := by decide +kernel
theorem dL_law_847 : decode cL_law 847 = .ok (.invokevirtual 89, 3) := by decide +kernel
theorem dL_law_850 : decode cL_law 850 = .ok (.aload_n 2, 1) := by decide +kernel
theorem dL_law_851 : decode cL_law 851 = .ok (.aload_n 0, 1) := by decide +kernel
theorem dL_law_852 : decode cL_law 852 = .ok (.iload_n 3, 1) := by decide +kernel
theorem dL_law_853 : decode cL_law 853 = .ok (.iconst 1, 1) := by decide +kernel
theorem dL_law_854 : decode cL_law 854 = .ok (.iadd, 1) := by decide +kernel
theorem dL_law_855 : decode cL_law 855 = .ok (.iaload, 1) := by decide +kernel
theorem dL_law_856 : decode cL_law 856 = .ok (.aload_n 0, 1) := by decide +kernel
theorem dL_law_857 : decode cL_law 857 = .ok (.iload_n 3, 1) := by decide +kernel
theorem dL_law_858 : decode cL_law 858 = .ok (.iconst 2, 1) := by decide +kernel
theorem dL_law_859 : decode cL_law 859 = .ok (.iadd, 1) := by decide +kernel
theorem dL_law_860 : decode cL_law 860 = .ok (.iaload, 1) := by decide +kernel
theorem dL_law_861 : decode cL_law 861 = .ok (.invokevirtual 92, 3) := by decide +kernel
theorem dL_law_864 : decode cL_law 864 = .ok (.lcmp, 1) := by decide +kernel
theorem dL_law_865 : decode cL_law 865 = .ok (.ifCond .eq 509, 3) := by decide +kernel
theorem dL_law_868 : decode cL_law 868 = .ok (.iconst 0, 1) := by decide +kernel
theorem dL_law_869 : decode cL_law 869 = .ok (.ireturn, 1) := by decide +kernel
theorem dL_law_870 : decode cL_law 870 = .ok (.aload_n 1, 1) := by decide +kernel
theorem dL_law_871 : decode cL_law 871 = .ok (.aload_n 0, 1) := by decide +kernel
theorem dL_law_872 : decode cL_law 872 = .ok (.iload_n 3, 1) := by decide +kernel
theorem dL_law_873 : decode cL_law 873 = .ok (.iconst 1, 1) := by decide +kernel
theorem dL_law_874 : decode cL_law 874 = .ok (.iadd, 1) := by decide +kernel
theorem dL_law_875 : decode cL_law 875 = .ok (.iaload, 1) := by decide +kernel
theorem dL_law_876 : decode cL_law 876 = .ok (.aload_n 0, 1) := by decide +kernel
theorem dL_law_877 : decode cL_law 877 = .ok (.iload_n 3, 1) := by decide +kernel
theorem dL_law_878 : decode cL_law 878 = .ok (.iconst 2, 1) := by decide +kernel
theorem dL_law_879 : decode cL_law 879 = .ok (.iadd, 1) := by decide +kernel
theorem dL_law_880 : decode cL_law 880 = .ok (.iaload, 1) := by decide +kernel
theorem dL_law_881 : decode cL_law 881 = .ok (.aload_n 0, 1) := by decide +kernel
theorem dL_law_882 : decode cL_law 882 = .ok (.iload_n 3, 1) := by decide +kernel
theorem dL_law_883 : decode cL_law 883 = .ok (.iconst 3, 1) := by decide +kernel
theorem dL_law_884 : decode cL_law 884 = .ok (.iadd, 1) := by decide +kernel
theorem dL_law_885 : decode cL_law 885 = .ok (.iaload, 1) := by decide +kernel
theorem dL_law_886 : decode cL_law 886 = .ok (.invokevirtual 93, 3) := by decide +kernel
theorem dL_law_889 : decode cL_law 889 = .ok (.aload_n 2, 1) := by decide +kernel
theorem dL_law_890 : decode cL_law 890 = .ok (.aload_n 0, 1) := by decide +kernel
theorem dL_law_891 : decode cL_law 891 = .ok (.iload_n 3, 1) := by decide +kernel
theorem dL_law_892 : decode cL_law 892 = .ok (.iconst 1, 1) := by decide +kernel
theorem dL_law_893 : decode cL_law 893 = .ok (.iadd, 1) := by decide +kernel
theorem dL_law_894 : decode cL_law 894 = .ok (.iaload, 1) := by decide +kernel
theorem dL_law_895 : decode cL_law 895 = .ok (.aload_n 0, 1) := by decide +kernel
theorem dL_law_896 : decode cL_law 896 = .ok (.iload_n 3, 1) := by decide +kernel
theorem dL_law_897 : decode cL_law 897 = .ok (.iconst 2, 1) := by decide +kernel
theorem dL_law_898 : decode cL_law 898 = .ok (.iadd, 1) := by decide +kernel
theorem dL_law_899 : decode cL_law 899 = .ok (.iaload, 1) := by decide +kernel
theorem dL_law_900 : decode cL_law 900 = .ok (.aload_n 0, 1) := by decide +kernel
theorem dL_law_901 : decode cL_law 901 = .ok (.iload_n 3, 1) := by decide +kernel
theorem dL_law_902 : decode cL_law 902 = .ok (.iconst 3, 1) := by decide +kernel
theorem dL_law_903 : decode cL_law 903 = .ok (.iadd, 1) := by decide +kernel
theorem dL_law_904 : decode cL_law 904 = .ok (.iaload, 1) := by decide +kernel
theorem dL_law_905 : decode cL_law 905 = .ok (.invokevirtual 96, 3) := by decide +kernel
theorem dL_law_908 : decode cL_law 908 = .ok (.lcmp, 1) := by decide +kernel
theorem dL_law_909 : decode cL_law 909 = .ok (.ifCond .eq 465, 3) := by decide +kernel
theorem dL_law_912 : decode cL_law 912 = .ok (.iconst 0, 1) := by decide +kernel
theorem dL_law_913 : decode cL_law 913 = .ok (.ireturn, 1) := by decide +kernel
theorem dL_law_914 : decode cL_law 914 = .ok (.aload_n 1, 1) := by decide +kernel
theorem dL_law_915 : decode cL_law 915 = .ok (.aload_n 0, 1) := by decide +kernel
theorem dL_law_916 : decode cL_law 916 = .ok (.iload_n 3, 1) := by decide +kernel
theorem dL_law_917 : decode cL_law 917 = .ok (.iconst 1, 1) := by decide +kernel
theorem dL_law_918 : decode cL_law 918 = .ok (.iadd, 1) := by decide +kernel
theorem dL_law_919 : decode cL_law 919 = .ok (.iaload, 1) := by decide +kernel
theorem dL_law_920 : decode cL_law 920 = .ok (.aload_n 0, 1) := by decide +kernel
theorem dL_law_921 : decode cL_law 921 = .ok (.iload_n 3, 1) := by decide +kernel
theorem dL_law_922 : decode cL_law 922 = .ok (.iconst 2, 1) := by decide +kernel
theorem dL_law_923 : decode cL_law 923 = .ok (.iadd, 1) := by decide +kernel
theorem dL_law_924 : decode cL_law 924 = .ok (.iaload, 1) := by decide +kernel
theorem dL_law_925 : decode cL_law 925 = .ok (.invokevirtual 97, 3) := by decide +kernel
theorem dL_law_928 : decode cL_law 928 = .ok (.aload_n 2, 1) := by decide +kernel
theorem dL_law_929 : decode cL_law 929 = .ok (.aload_n 0, 1) := by decide +kernel
theorem dL_law_930 : decode cL_law 930 = .ok (.iload_n 3, 1) := by decide +kernel
theorem dL_law_931 : decode cL_law 931 = .ok (.iconst 1, 1) := by decide +kernel
theorem dL_law_932 : decode cL_law 932 = .ok (.iadd, 1) := by decide +kernel
theorem dL_law_933 : decode cL_law 933 = .ok (.iaload, 1) := by decide +kernel
theorem dL_law_934 : decode cL_law 934 = .ok (.aload_n 0, 1) := by decide +kernel
theorem dL_law_935 : decode cL_law 935 = .ok (.iload_n 3, 1) := by decide +kernel
theorem dL_law_936 : decode cL_law 936 = .ok (.iconst 2, 1) := by decide +kernel
theorem dL_law_937 : decode cL_law 937 = .ok (.iadd, 1) := by decide +kernel
theorem dL_law_938 : decode cL_law 938 = .ok (.iaload, 1) := by decide +kernel
theorem dL_law_939 : decode cL_law 939 = .ok (.invokevirtual 100, 3) := by decide +kernel
theorem dL_law_942 : decode cL_law 942 = .ok (.lcmp, 1) := by decide +kernel
theorem dL_law_943 : decode cL_law 943 = .ok (.ifCond .eq 431, 3) := by decide +kernel
theorem dL_law_946 : decode cL_law 946 = .ok (.iconst 0, 1) := by decide +kernel
theorem dL_law_947 : decode cL_law 947 = .ok (.ireturn, 1) := by decide +kernel
theorem dL_law_948 : decode cL_law 948 = .ok (.aload_n 1, 1) := by decide +kernel
theorem dL_law_949 : decode cL_law 949 = .ok (.aload_n 0, 1) := by decide +kernel
theorem dL_law_950 : decode cL_law 950 = .ok (.iload_n 3, 1) := by decide +kernel
theorem dL_law_951 : decode cL_law 951 = .ok (.iconst 1, 1) := by decide +kernel
theorem dL_law_952 : decode cL_law 952 = .ok (.iadd, 1) := by decide +kernel
theorem dL_law_953 : decode cL_law 953 = .ok (.iaload, 1) := by decide +kernel
theorem dL_law_954 : decode cL_law 954 = .ok (.aload_n 0, 1) := by decide +kernel
theorem dL_law_955 : decode cL_law 955 = .ok (.iload_n 3, 1) := by decide +kernel
theorem dL_law_956 : decode cL_law 956 = .ok (.iconst 2, 1) := by decide +kernel
theorem dL_law_957 : decode cL_law 957 = .ok (.iadd, 1) := by decide +kernel
theorem dL_law_958 : decode cL_law 958 = .ok (.iaload, 1) := by decide +kernel
theorem dL_law_959 : decode cL_law 959 = .ok (.aload_n 0, 1) := by decide +kernel
theorem dL_law_960 : decode cL_law 960 = .ok (.iload_n 3, 1) := by decide +kernel
theorem dL_law_961 : decode cL_law 961 = .ok (.iconst 3, 1) := by decide +kernel
theorem dL_law_962 : decode cL_law 962 = .ok (.iadd, 1) := by decide +kernel
theorem dL_law_963 : decode cL_law 963 = .ok (.iaload, 1) := by decide +kernel
theorem dL_law_964 : decode cL_law 964 = .ok (.invokevirtual 101, 3) := by decide +kernel
theorem dL_law_967 : decode cL_law 967 = .ok (.aload_n 2, 1) := by decide +kernel
theorem dL_law_968 : decode cL_law 968 = .ok (.aload_n 0, 1) := by decide +kernel
theorem dL_law_969 : decode cL_law 969 = .ok (.iload_n 3, 1) := by decide +kernel
theorem dL_law_970 : decode cL_law 970 = .ok (.iconst 1, 1) := by decide +kernel
theorem dL_law_971 : decode cL_law 971 = .ok (.iadd, 1) := by decide +kernel
theorem dL_law_972 : decode cL_law 972 = .ok (.iaload, 1) := by decide +kernel
theorem dL_law_973 : decode cL_law 973 = .ok (.aload_n 0, 1) := by decide +kernel
theorem dL_law_974 : decode cL_law 974 = .ok (.iload_n 3, 1) := by decide +kernel
theorem dL_law_975 : decode cL_law 975 = .ok (.iconst 2, 1) := by decide +kernel
theorem dL_law_976 : decode cL_law 976 = .ok (.iadd, 1) := by decide +kernel
theorem dL_law_977 : decode cL_law 977 = .ok (.iaload, 1) := by decide +kernel
theorem dL_law_978 : decode cL_law 978 = .ok (.aload_n 0, 1) := by decide +kernel
theorem dL_law_979 : decode cL_law 979 = .ok (.iload_n 3, 1) := by decide +kernel
theorem dL_law_980 : decode cL_law 980 = .ok (.iconst 3, 1) := by decide +kernel
theorem dL_law_981 : decode cL_law 981 = .ok (.iadd, 1) := by decide +kernel
theorem dL_law_982 : decode cL_law 982 = .ok (.iaload, 1) := by decide +kernel
theorem dL_law_983 : decode cL_law 983 = .ok (.invokevirtual 104, 3) := by decide +kernel
theorem dL_law_986 : decode cL_law 986 = .ok (.lcmp, 1) := by decide +kernel
theorem dL_law_987 : decode cL_law 987 = .ok (.ifCond .eq 387, 3) := by decide +kernel
theorem dL_law_990 : decode cL_law 990 = .ok (.iconst 0, 1) := by decide +kernel
theorem dL_law_991 : decode cL_law 991 = .ok (.ireturn, 1) := by decide +kernel
theorem dL_law_992 : decode cL_law 992 = .ok (.aload_n 1, 1) := by decide +kernel
theorem dL_law_993 : decode cL_law 993 = .ok (.aload_n 0, 1) := by decide +kernel
theorem dL_law_994 : decode cL_law 994 = .ok (.iload_n 3, 1) := by decide +kernel
theorem dL_law_995 : decode cL_law 995 = .ok (.iconst 1, 1) := by decide +kernel
theorem dL_law_996 : decode cL_law 996 = .ok (.iadd, 1) := by decide +kernel
theorem dL_law_997 : decode cL_law 997 = .ok (.iaload, 1) := by decide +kernel
theorem dL_law_998 : decode cL_law 998 = .ok (.aload_n 0, 1) := by decide +kernel
theorem dL_law_999 : decode cL_law 999 = .ok (.iload_n 3, 1) := by decide +kernel
theorem dL_law_1000 : decode cL_law 1000 = .ok (.iconst 2, 1) := by decide +kernel
theorem dL_law_1001 : decode cL_law 1001 = .ok (.iadd, 1) := by decide +kernel
theorem dL_law_1002 : decode cL_law 1002 = .ok (.iaload, 1) := by decide +kernel
theorem dL_law_1003 : decode cL_law 1003 = .ok (.invokevirtual 105, 3) := by decide +kernel
theorem dL_law_1006 : decode cL_law 1006 = .ok (.aload_n 2, 1) := by decide +kernel
theorem dL_law_1007 : decode cL_law 1007 = .ok (.aload_n 0, 1) := by decide +kernel
theorem dL_law_1008 : decode cL_law 1008 = .ok (.iload_n 3, 1) := by decide +kernel
theorem dL_law_1009 : decode cL_law 1009 = .ok (.iconst 1, 1) := by decide +kernel
theorem dL_law_1010 : decode cL_law 1010 = .ok (.iadd, 1) := by decide +kernel
theorem dL_law_1011 : decode cL_law 1011 = .ok (.iaload, 1) := by decide +kernel
theorem dL_law_1012 : decode cL_law 1012 = .ok (.aload_n 0, 1) := by decide +kernel
theorem dL_law_1013 : decode cL_law 1013 = .ok (.iload_n 3, 1) := by decide +kernel
theorem dL_law_1014 : decode cL_law 1014 = .ok (.iconst 2, 1) := by decide +kernel
theorem dL_law_1015 : decode cL_law 1015 = .ok (.iadd, 1) := by decide +kernel
theorem dL_law_1016 : decode cL_law 1016 = .ok (.iaload, 1) := by decide +kernel
theorem dL_law_1017 : decode cL_law 1017 = .ok (.invokevirtual 108, 3) := by decide +kernel
theorem dL_law_1020 : decode cL_law 1020 = .ok (.lcmp, 1) := by decide +kernel
theorem dL_law_1021 : decode cL_law 1021 = .ok (.ifCond .eq 353, 3) := by decide +kernel
theorem dL_law_1024 : decode cL_law 1024 = .ok (.iconst 0, 1) := by decide +kernel
theorem dL_law_1025 : decode cL_law 1025 = .ok (.ireturn, 1) := by decide +kernel
theorem dL_law_1026 : decode cL_law 1026 = .ok (.aload_n 1, 1) := by decide +kernel
theorem dL_law_1027 : decode cL_law 1027 = .ok (.aload_n 0, 1) := by decide +kernel
theorem dL_law_1028 : decode cL_law 1028 = .ok (.iload_n 3, 1) := by decide +kernel
theorem dL_law_1029 : decode cL_law 1029 = .ok (.iconst 1, 1) := by decide +kernel
theorem dL_law_1030 : decode cL_law 1030 = .ok (.iadd, 1) := by decide +kernel
theorem dL_law_1031 : decode cL_law 1031 = .ok (.iaload, 1) := by decide +kernel
theorem dL_law_1032 : decode cL_law 1032 = .ok (.aload_n 0, 1) := by decide +kernel
theorem dL_law_1033 : decode cL_law 1033 = .ok (.iload_n 3, 1) := by decide +kernel
theorem dL_law_1034 : decode cL_law 1034 = .ok (.iconst 2, 1) := by decide +kernel
theorem dL_law_1035 : decode cL_law 1035 = .ok (.iadd, 1) := by decide +kernel
theorem dL_law_1036 : decode cL_law 1036 = .ok (.iaload, 1) := by decide +kernel
theorem dL_law_1037 : decode cL_law 1037 = .ok (.aload_n 0, 1) := by decide +kernel
theorem dL_law_1038 : decode cL_law 1038 = .ok (.iload_n 3, 1) := by decide +kernel
theorem dL_law_1039 : decode cL_law 1039 = .ok (.iconst 3, 1) := by decide +kernel
theorem dL_law_1040 : decode cL_law 1040 = .ok (.iadd, 1) := by decide +kernel
theorem dL_law_1041 : decode cL_law 1041 = .ok (.iaload, 1) := by decide +kernel
theorem dL_law_1042 : decode cL_law 1042 = .ok (.invokevirtual 109, 3) := by decide +kernel
theorem dL_law_1045 : decode cL_law 1045 = .ok (.aload_n 2, 1) := by decide +kernel
theorem dL_law_1046 : decode cL_law 1046 = .ok (.aload_n 0, 1) := by decide +kernel
theorem dL_law_1047 : decode cL_law 1047 = .ok (.iload_n 3, 1) := by decide +kernel
theorem dL_law_1048 : decode cL_law 1048 = .ok (.iconst 1, 1) := by decide +kernel
theorem dL_law_1049 : decode cL_law 1049 = .ok (.iadd, 1) := by decide +kernel
theorem dL_law_1050 : decode cL_law 1050 = .ok (.iaload, 1) := by decide +kernel
theorem dL_law_1051 : decode cL_law 1051 = .ok (.aload_n 0, 1) := by decide +kernel
theorem dL_law_1052 : decode cL_law 1052 = .ok (.iload_n 3, 1) := by decide +kernel
theorem dL_law_1053 : decode cL_law 1053 = .ok (.iconst 2, 1) := by decide +kernel
theorem dL_law_1054 : decode cL_law 1054 = .ok (.iadd, 1) := by decide +kernel
theorem dL_law_1055 : decode cL_law 1055 = .ok (.iaload, 1) := by decide +kernel
theorem dL_law_1056 : decode cL_law 1056 = .ok (.aload_n 0, 1) := by decide +kernel
theorem dL_law_1057 : decode cL_law 1057 = .ok (.iload_n 3, 1) := by decide +kernel
theorem dL_law_1058 : decode cL_law 1058 = .ok (.iconst 3, 1) := by decide +kernel
theorem dL_law_1059 : decode cL_law 1059 = .ok (.iadd, 1) := by decide +kernel
theorem dL_law_1060 : decode cL_law 1060 = .ok (.iaload, 1) := by decide +kernel
theorem dL_law_1061 : decode cL_law 1061 = .ok (.invokevirtual 112, 3) := by decide +kernel
theorem dL_law_1064 : decode cL_law 1064 = .ok (.lcmp, 1) := by decide +kernel
theorem dL_law_1065 : decode cL_law 1065 = .ok (.ifCond .eq 309, 3) := by decide +kernel
theorem dL_law_1068 : decode cL_law 1068 = .ok (.iconst 0, 1) := by decide +kernel
theorem dL_law_1069 : decode cL_law 1069 = .ok (.ireturn, 1) := by decide +kernel
theorem dL_law_1070 : decode cL_law 1070 = .ok (.aload_n 1, 1) := by decide +kernel
theorem dL_law_1071 : decode cL_law 1071 = .ok (.aload_n 0, 1) := by decide +kernel
theorem dL_law_1072 : decode cL_law 1072 = .ok (.iload_n 3, 1) := by decide +kernel
theorem dL_law_1073 : decode cL_law 1073 = .ok (.iconst 1, 1) := by decide +kernel
theorem dL_law_1074 : decode cL_law 1074 = .ok (.iadd, 1) := by decide +kernel
theorem dL_law_1075 : decode cL_law 1075 = .ok (.iaload, 1) := by decide +kernel
theorem dL_law_1076 : decode cL_law 1076 = .ok (.aload_n 0, 1) := by decide +kernel
theorem dL_law_1077 : decode cL_law 1077 = .ok (.iload_n 3, 1) := by decide +kernel
theorem dL_law_1078 : decode cL_law 1078 = .ok (.iconst 2, 1) := by decide +kernel
theorem dL_law_1079 : decode cL_law 1079 = .ok (.iadd, 1) := by decide +kernel
theorem dL_law_1080 : decode cL_law 1080 = .ok (.iaload, 1) := by decide +kernel
theorem dL_law_1081 : decode cL_law 1081 = .ok (.aload_n 0, 1) := by decide +kernel
theorem dL_law_1082 : decode cL_law 1082 = .ok (.iload_n 3, 1) := by decide +kernel
theorem dL_law_1083 : decode cL_law 1083 = .ok (.iconst 3, 1) := by decide +kernel
theorem dL_law_1084 : decode cL_law 1084 = .ok (.iadd, 1) := by decide +kernel
theorem dL_law_1085 : decode cL_law 1085 = .ok (.iaload, 1) := by decide +kernel
theorem dL_law_1086 : decode cL_law 1086 = .ok (.aload_n 0, 1) := by decide +kernel
theorem dL_law_1087 : decode cL_law 1087 = .ok (.iload_n 3, 1) := by decide +kernel
theorem dL_law_1088 : decode cL_law 1088 = .ok (.iconst 4, 1) := by decide +kernel
theorem dL_law_1089 : decode cL_law 1089 = .ok (.iadd, 1) := by decide +kernel
theorem dL_law_1090 : decode cL_law 1090 = .ok (.iaload, 1) := by decide +kernel
theorem dL_law_1091 : decode cL_law 1091 = .ok (.ifCond .eq 7, 3) := by decide +kernel
theorem dL_law_1094 : decode cL_law 1094 = .ok (.iconst 1, 1) := by decide +kernel
theorem dL_law_1095 : decode cL_law 1095 = .ok (.goto 4, 3) := by decide +kernel
theorem dL_law_1098 : decode cL_law 1098 = .ok (.iconst 0, 1) := by decide +kernel
theorem dL_law_1099 : decode cL_law 1099 = .ok (.invokevirtual 113, 3) := by decide +kernel
theorem dL_law_1102 : decode cL_law 1102 = .ok (.aload_n 2, 1) := by decide +kernel
theorem dL_law_1103 : decode cL_law 1103 = .ok (.aload_n 0, 1) := by decide +kernel
theorem dL_law_1104 : decode cL_law 1104 = .ok (.iload_n 3, 1) := by decide +kernel
theorem dL_law_1105 : decode cL_law 1105 = .ok (.iconst 1, 1) := by decide +kernel
theorem dL_law_1106 : decode cL_law 1106 = .ok (.iadd, 1) := by decide +kernel
theorem dL_law_1107 : decode cL_law 1107 = .ok (.iaload, 1) := by decide +kernel
theorem dL_law_1108 : decode cL_law 1108 = .ok (.aload_n 0, 1) := by decide +kernel
theorem dL_law_1109 : decode cL_law 1109 = .ok (.iload_n 3, 1) := by decide +kernel
theorem dL_law_1110 : decode cL_law 1110 = .ok (.iconst 2, 1) := by decide +kernel
theorem dL_law_1111 : decode cL_law 1111 = .ok (.iadd, 1) := by decide +kernel
theorem dL_law_1112 : decode cL_law 1112 = .ok (.iaload, 1) := by decide +kernel
theorem dL_law_1113 : decode cL_law 1113 = .ok (.aload_n 0, 1) := by decide +kernel
theorem dL_law_1114 : decode cL_law 1114 = .ok (.iload_n 3, 1) := by decide +kernel
theorem dL_law_1115 : decode cL_law 1115 = .ok (.iconst 3, 1) := by decide +kernel
theorem dL_law_1116 : decode cL_law 1116 = .ok (.iadd, 1) := by decide +kernel
theorem dL_law_1117 : decode cL_law 1117 = .ok (.iaload, 1) := by decide +kernel
theorem dL_law_1118 : decode cL_law 1118 = .ok (.aload_n 0, 1) := by decide +kernel
theorem dL_law_1119 : decode cL_law 1119 = .ok (.iload_n 3, 1) := by decide +kernel
theorem dL_law_1120 : decode cL_law 1120 = .ok (.iconst 4, 1) := by decide +kernel
theorem dL_law_1121 : decode cL_law 1121 = .ok (.iadd, 1) := by decide +kernel
theorem dL_law_1122 : decode cL_law 1122 = .ok (.iaload, 1) := by decide +kernel
theorem dL_law_1123 : decode cL_law 1123 = .ok (.ifCond .eq 7, 3) := by decide +kernel
theorem dL_law_1126 : decode cL_law 1126 = .ok (.iconst 1, 1) := by decide +kernel
theorem dL_law_1127 : decode cL_law 1127 = .ok (.goto 4, 3) := by decide +kernel
theorem dL_law_1130 : decode cL_law 1130 = .ok (.iconst 0, 1) := by decide +kernel
theorem dL_law_1131 : decode cL_law 1131 = .ok (.invokevirtual 117, 3) := by decide +kernel
theorem dL_law_1134 : decode cL_law 1134 = .ok (.lcmp, 1) := by decide +kernel
theorem dL_law_1135 : decode cL_law 1135 = .ok (.ifCond .eq 239, 3) := by decide +kernel
theorem dL_law_1138 : decode cL_law 1138 = .ok (.iconst 0, 1) := by decide +kernel
theorem dL_law_1139 : decode cL_law 1139 = .ok (.ireturn, 1) := by decide +kernel
theorem dL_law_1140 : decode cL_law 1140 = .ok (.aload_n 1, 1) := by decide +kernel
theorem dL_law_1141 : decode cL_law 1141 = .ok (.aload_n 0, 1) := by decide +kernel
theorem dL_law_1142 : decode cL_law 1142 = .ok (.iload_n 3, 1) := by decide +kernel
theorem dL_law_1143 : decode cL_law 1143 = .ok (.iconst 1, 1) := by decide +kernel
theorem dL_law_1144 : decode cL_law 1144 = .ok (.iadd, 1) := by decide +kernel
theorem dL_law_1145 : decode cL_law 1145 = .ok (.iaload, 1) := by decide +kernel
theorem dL_law_1146 : decode cL_law 1146 = .ok (.invokevirtual 118, 3) := by decide +kernel
theorem dL_law_1149 : decode cL_law 1149 = .ok (.aload_n 2, 1) := by decide +kernel
theorem dL_law_1150 : decode cL_law 1150 = .ok (.aload_n 0, 1) := by decide +kernel
theorem dL_law_1151 : decode cL_law 1151 = .ok (.iload_n 3, 1) := by decide +kernel
theorem dL_law_1152 : decode cL_law 1152 = .ok (.iconst 1, 1) := by decide +kernel
theorem dL_law_1153 : decode cL_law 1153 = .ok (.iadd, 1) := by decide +kernel
theorem dL_law_1154 : decode cL_law 1154 = .ok (.iaload, 1) := by decide +kernel
theorem dL_law_1155 : decode cL_law 1155 = .ok (.invokevirtual 121, 3) := by decide +kernel
theorem dL_law_1158 : decode cL_law 1158 = .ok (.lcmp, 1) := by decide +kernel
theorem dL_law_1159 : decode cL_law 1159 = .ok (.ifCond .eq 215, 3) := by decide +kernel
theorem dL_law_1162 : decode cL_law 1162 = .ok (.iconst 0, 1) := by decide +kernel
theorem dL_law_1163 : decode cL_law 1163 = .ok (.ireturn, 1) := by decide +kernel
theorem dL_law_1164 : decode cL_law 1164 = .ok (.aload_n 1, 1) := by decide +kernel
theorem dL_law_1165 : decode cL_law 1165 = .ok (.aload_n 0, 1) := by decide +kernel
theorem dL_law_1166 : decode cL_law 1166 = .ok (.iload_n 3, 1) := by decide +kernel
theorem dL_law_1167 : decode cL_law 1167 = .ok (.iconst 1, 1) := by decide +kernel
theorem dL_law_1168 : decode cL_law 1168 = .ok (.iadd, 1) := by decide +kernel
theorem dL_law_1169 : decode cL_law 1169 = .ok (.iaload, 1) := by decide +kernel
theorem dL_law_1170 : decode cL_law 1170 = .ok (.aload_n 0, 1) := by decide +kernel
theorem dL_law_1171 : decode cL_law 1171 = .ok (.iload_n 3, 1) := by decide +kernel
theorem dL_law_1172 : decode cL_law 1172 = .ok (.iconst 2, 1) := by decide +kernel
theorem dL_law_1173 : decode cL_law 1173 = .ok (.iadd, 1) := by decide +kernel
theorem dL_law_1174 : decode cL_law 1174 = .ok (.iaload, 1) := by decide +kernel
theorem dL_law_1175 : decode cL_law 1175 = .ok (.aload_n 0, 1) := by decide +kernel
theorem dL_law_1176 : decode cL_law 1176 = .ok (.iload_n 3, 1) := by decide +kernel
theorem dL_law_1177 : decode cL_law 1177 = .ok (.iconst 3, 1) := by decide +kernel
theorem dL_law_1178 : decode cL_law 1178 = .ok (.iadd, 1) := by decide +kernel
theorem dL_law_1179 : decode cL_law 1179 = .ok (.iaload, 1) := by decide +kernel
theorem dL_law_1180 : decode cL_law 1180 = .ok (.invokevirtual 122, 3) := by decide +kernel
theorem dL_law_1183 : decode cL_law 1183 = .ok (.aload_n 2, 1) := by decide +kernel
theorem dL_law_1184 : decode cL_law 1184 = .ok (.aload_n 0, 1) := by decide +kernel
theorem dL_law_1185 : decode cL_law 1185 = .ok (.iload_n 3, 1) := by decide +kernel
theorem dL_law_1186 : decode cL_law 1186 = .ok (.iconst 1, 1) := by decide +kernel
theorem dL_law_1187 : decode cL_law 1187 = .ok (.iadd, 1) := by decide +kernel
theorem dL_law_1188 : decode cL_law 1188 = .ok (.iaload, 1) := by decide +kernel
theorem dL_law_1189 : decode cL_law 1189 = .ok (.aload_n 0, 1) := by decide +kernel
theorem dL_law_1190 : decode cL_law 1190 = .ok (.iload_n 3, 1) := by decide +kernel
theorem dL_law_1191 : decode cL_law 1191 = .ok (.iconst 2, 1) := by decide +kernel
theorem dL_law_1192 : decode cL_law 1192 = .ok (.iadd, 1) := by decide +kernel
theorem dL_law_1193 : decode cL_law 1193 = .ok (.iaload, 1) := by decide +kernel
theorem dL_law_1194 : decode cL_law 1194 = .ok (.aload_n 0, 1) := by decide +kernel
theorem dL_law_1195 : decode cL_law 1195 = .ok (.iload_n 3, 1) := by decide +kernel
theorem dL_law_1196 : decode cL_law 1196 = .ok (.iconst 3, 1) := by decide +kernel
theorem dL_law_1197 : decode cL_law 1197 = .ok (.iadd, 1) := by decide +kernel
theorem dL_law_1198 : decode cL_law 1198 = .ok (.iaload, 1) := by decide +kernel
theorem dL_law_1199 : decode cL_law 1199 = .ok (.invokevirtual 125, 3) := by decide +kernel
theorem dL_law_1202 : decode cL_law 1202 = .ok (.lcmp, 1) := by decide +kernel
theorem dL_law_1203 : decode cL_law 1203 = .ok (.ifCond .eq 171, 3) := by decide +kernel
theorem dL_law_1206 : decode cL_law 1206 = .ok (.iconst 0, 1) := by decide +kernel
theorem dL_law_1207 : decode cL_law 1207 = .ok (.ireturn, 1) := by decide +kernel
theorem dL_law_1208 : decode cL_law 1208 = .ok (.aload_n 1, 1) := by decide +kernel
theorem dL_law_1209 : decode cL_law 1209 = .ok (.aload_n 0, 1) := by decide +kernel
theorem dL_law_1210 : decode cL_law 1210 = .ok (.iload_n 3, 1) := by decide +kernel
theorem dL_law_1211 : decode cL_law 1211 = .ok (.iconst 1, 1) := by decide +kernel
theorem dL_law_1212 : decode cL_law 1212 = .ok (.iadd, 1) := by decide +kernel
theorem dL_law_1213 : decode cL_law 1213 = .ok (.iaload, 1) := by decide +kernel
theorem dL_law_1214 : decode cL_law 1214 = .ok (.aload_n 0, 1) := by decide +kernel
theorem dL_law_1215 : decode cL_law 1215 = .ok (.iload_n 3, 1) := by decide +kernel
theorem dL_law_1216 : decode cL_law 1216 = .ok (.iconst 2, 1) := by decide +kernel
theorem dL_law_1217 : decode cL_law 1217 = .ok (.iadd, 1) := by decide +kernel
theorem dL_law_1218 : decode cL_law 1218 = .ok (.iaload, 1) := by decide +kernel
theorem dL_law_1219 : decode cL_law 1219 = .ok (.aload_n 0, 1) := by decide +kernel
theorem dL_law_1220 : decode cL_law 1220 = .ok (.iload_n 3, 1) := by decide +kernel
theorem dL_law_1221 : decode cL_law 1221 = .ok (.iconst 3, 1) := by decide +kernel
end
section
theorem dL_law_1222 : decode cL_law 1222 = .ok (.iadd, 1) := by decide +kernel
theorem dL_law_1223 : decode cL_law 1223 = .ok (.iaload, 1) := by decide +kernel
theorem dL_law_1224 : decode cL_law 1224 = .ok (.invokevirtual 126, 3) := by decide +kernel
theorem dL_law_1227 : decode cL_law 1227 = .ok (.aload_n 2, 1) := by decide +kernel
theorem dL_law_1228 : decode cL_law 1228 = .ok (.aload_n 0, 1) := by decide +kernel
theorem dL_law_1229 : decode cL_law 1229 = .ok (.iload_n 3, 1) := by decide +kernel
theorem dL_law_1230 : decode cL_law 1230 = .ok (.iconst 1, 1) := by decide +kernel
theorem dL_law_1231 : decode cL_law 1231 = .ok (.iadd, 1) := by decide +kernel
theorem dL_law_1232 : decode cL_law 1232 = .ok (.iaload, 1) := by decide +kernel
theorem dL_law_1233 : decode cL_law 1233 = .ok (.aload_n 0, 1) := by decide +kernel
theorem dL_law_1234 : decode cL_law 1234 = .ok (.iload_n 3, 1) := by decide +kernel
theorem dL_law_1235 : decode cL_law 1235 = .ok (.iconst 2, 1) := by decide +kernel
theorem dL_law_1236 : decode cL_law 1236 = .ok (.iadd, 1) := by decide +kernel
theorem dL_law_1237 : decode cL_law 1237 = .ok (.iaload, 1) := by decide +kernel
theorem dL_law_1238 : decode cL_law 1238 = .ok (.aload_n 0, 1) := by decide +kernel
theorem dL_law_1239 : decode cL_law 1239 = .ok (.iload_n 3, 1) := by decide +kernel
theorem dL_law_1240 : decode cL_law 1240 = .ok (.iconst 3, 1) := by decide +kernel
theorem dL_law_1241 : decode cL_law 1241 = .ok (.iadd, 1) := by decide +kernel
theorem dL_law_1242 : decode cL_law 1242 = .ok (.iaload, 1) := by decide +kernel
theorem dL_law_1243 : decode cL_law 1243 = .ok (.invokevirtual 129, 3) := by decide +kernel
theorem dL_law_1246 : decode cL_law 1246 = .ok (.lcmp, 1) := by decide +kernel
theorem dL_law_1247 : decode cL_law 1247 = .ok (.ifCond .eq 127, 3) := by decide +kernel
theorem dL_law_1250 : decode cL_law 1250 = .ok (.iconst 0, 1) := by decide +kernel
theorem dL_law_1251 : decode cL_law 1251 = .ok (.ireturn, 1) := by decide +kernel
theorem dL_law_1252 : decode cL_law 1252 = .ok (.aload_n 1, 1) := by decide +kernel
theorem dL_law_1253 : decode cL_law 1253 = .ok (.aload_n 0, 1) := by decide +kernel
theorem dL_law_1254 : decode cL_law 1254 = .ok (.iload_n 3, 1) := by decide +kernel
theorem dL_law_1255 : decode cL_law 1255 = .ok (.iconst 1, 1) := by decide +kernel
theorem dL_law_1256 : decode cL_law 1256 = .ok (.iadd, 1) := by decide +kernel
theorem dL_law_1257 : decode cL_law 1257 = .ok (.iaload, 1) := by decide +kernel
theorem dL_law_1258 : decode cL_law 1258 = .ok (.aload_n 0, 1) := by decide +kernel
theorem dL_law_1259 : decode cL_law 1259 = .ok (.iload_n 3, 1) := by decide +kernel
theorem dL_law_1260 : decode cL_law 1260 = .ok (.iconst 2, 1) := by decide +kernel
theorem dL_law_1261 : decode cL_law 1261 = .ok (.iadd, 1) := by decide +kernel
theorem dL_law_1262 : decode cL_law 1262 = .ok (.iaload, 1) := by decide +kernel
theorem dL_law_1263 : decode cL_law 1263 = .ok (.aload_n 0, 1) := by decide +kernel
theorem dL_law_1264 : decode cL_law 1264 = .ok (.iload_n 3, 1) := by decide +kernel
theorem dL_law_1265 : decode cL_law 1265 = .ok (.iconst 3, 1) := by decide +kernel
theorem dL_law_1266 : decode cL_law 1266 = .ok (.iadd, 1) := by decide +kernel
theorem dL_law_1267 : decode cL_law 1267 = .ok (.iaload, 1) := by decide +kernel
theorem dL_law_1268 : decode cL_law 1268 = .ok (.aload_n 0, 1) := by decide +kernel
theorem dL_law_1269 : decode cL_law 1269 = .ok (.iload_n 3, 1) := by decide +kernel
theorem dL_law_1270 : decode cL_law 1270 = .ok (.iconst 4, 1) := by decide +kernel
theorem dL_law_1271 : decode cL_law 1271 = .ok (.iadd, 1) := by decide +kernel
theorem dL_law_1272 : decode cL_law 1272 = .ok (.iaload, 1) := by decide +kernel
theorem dL_law_1273 : decode cL_law 1273 = .ok (.aload_n 0, 1) := by decide +kernel
theorem dL_law_1274 : decode cL_law 1274 = .ok (.iload_n 3, 1) := by decide +kernel
theorem dL_law_1275 : decode cL_law 1275 = .ok (.iconst 5, 1) := by decide +kernel
theorem dL_law_1276 : decode cL_law 1276 = .ok (.iadd, 1) := by decide +kernel
theorem dL_law_1277 : decode cL_law 1277 = .ok (.iaload, 1) := by decide +kernel
theorem dL_law_1278 : decode cL_law 1278 = .ok (.invokevirtual 130, 3) := by decide +kernel
theorem dL_law_1281 : decode cL_law 1281 = .ok (.aload_n 2, 1) := by decide +kernel
theorem dL_law_1282 : decode cL_law 1282 = .ok (.aload_n 0, 1) := by decide +kernel
theorem dL_law_1283 : decode cL_law 1283 = .ok (.iload_n 3, 1) := by decide +kernel
theorem dL_law_1284 : decode cL_law 1284 = .ok (.iconst 1, 1) := by decide +kernel
theorem dL_law_1285 : decode cL_law 1285 = .ok (.iadd, 1) := by decide +kernel
theorem dL_law_1286 : decode cL_law 1286 = .ok (.iaload, 1) := by decide +kernel
theorem dL_law_1287 : decode cL_law 1287 = .ok (.aload_n 0, 1) := by decide +kernel
theorem dL_law_1288 : decode cL_law 1288 = .ok (.iload_n 3, 1) := by decide +kernel
theorem dL_law_1289 : decode cL_law 1289 = .ok (.iconst 2, 1) := by decide +kernel
theorem dL_law_1290 : decode cL_law 1290 = .ok (.iadd, 1) := by decide +kernel
theorem dL_law_1291 : decode cL_law 1291 = .ok (.iaload, 1) := by decide +kernel
theorem dL_law_1292 : decode cL_law 1292 = .ok (.aload_n 0, 1) := by decide +kernel
theorem dL_law_1293 : decode cL_law 1293 = .ok (.iload_n 3, 1) := by decide +kernel
theorem dL_law_1294 : decode cL_law 1294 = .ok (.iconst 3, 1) := by decide +kernel
theorem dL_law_1295 : decode cL_law 1295 = .ok (.iadd, 1) := by decide +kernel
theorem dL_law_1296 : decode cL_law 1296 = .ok (.iaload, 1) := by decide +kernel
theorem dL_law_1297 : decode cL_law 1297 = .ok (.aload_n 0, 1) := by decide +kernel
theorem dL_law_1298 : decode cL_law 1298 = .ok (.iload_n 3, 1) := by decide +kernel
theorem dL_law_1299 : decode cL_law 1299 = .ok (.iconst 4, 1) := by decide +kernel
theorem dL_law_1300 : decode cL_law 1300 = .ok (.iadd, 1) := by decide +kernel
theorem dL_law_1301 : decode cL_law 1301 = .ok (.iaload, 1) := by decide +kernel
theorem dL_law_1302 : decode cL_law 1302 = .ok (.aload_n 0, 1) := by decide +kernel
theorem dL_law_1303 : decode cL_law 1303 = .ok (.iload_n 3, 1) := by decide +kernel
theorem dL_law_1304 : decode cL_law 1304 = .ok (.iconst 5, 1) := by decide +kernel
theorem dL_law_1305 : decode cL_law 1305 = .ok (.iadd, 1) := by decide +kernel
theorem dL_law_1306 : decode cL_law 1306 = .ok (.iaload, 1) := by decide +kernel
theorem dL_law_1307 : decode cL_law 1307 = .ok (.invokevirtual 134, 3) := by decide +kernel
theorem dL_law_1310 : decode cL_law 1310 = .ok (.lcmp, 1) := by decide +kernel
theorem dL_law_1311 : decode cL_law 1311 = .ok (.ifCond .eq 63, 3) := by decide +kernel
theorem dL_law_1314 : decode cL_law 1314 = .ok (.iconst 0, 1) := by decide +kernel
theorem dL_law_1315 : decode cL_law 1315 = .ok (.ireturn, 1) := by decide +kernel
theorem dL_law_1316 : decode cL_law 1316 = .ok (.aload_n 1, 1) := by decide +kernel
theorem dL_law_1317 : decode cL_law 1317 = .ok (.aload_n 0, 1) := by decide +kernel
theorem dL_law_1318 : decode cL_law 1318 = .ok (.iload_n 3, 1) := by decide +kernel
theorem dL_law_1319 : decode cL_law 1319 = .ok (.iconst 1, 1) := by decide +kernel
theorem dL_law_1320 : decode cL_law 1320 = .ok (.iadd, 1) := by decide +kernel
theorem dL_law_1321 : decode cL_law 1321 = .ok (.iaload, 1) := by decide +kernel
theorem dL_law_1322 : decode cL_law 1322 = .ok (.aload_n 0, 1) := by decide +kernel
theorem dL_law_1323 : decode cL_law 1323 = .ok (.iload_n 3, 1) := by decide +kernel
theorem dL_law_1324 : decode cL_law 1324 = .ok (.iconst 2, 1) := by decide +kernel
theorem dL_law_1325 : decode cL_law 1325 = .ok (.iadd, 1) := by decide +kernel
theorem dL_law_1326 : decode cL_law 1326 = .ok (.iaload, 1) := by decide +kernel
theorem dL_law_1327 : decode cL_law 1327 = .ok (.invokevirtual 135, 3) := by decide +kernel
theorem dL_law_1330 : decode cL_law 1330 = .ok (.aload_n 2, 1) := by decide +kernel
theorem dL_law_1331 : decode cL_law 1331 = .ok (.aload_n 0, 1) := by decide +kernel
theorem dL_law_1332 : decode cL_law 1332 = .ok (.iload_n 3, 1) := by decide +kernel
theorem dL_law_1333 : decode cL_law 1333 = .ok (.iconst 1, 1) := by decide +kernel
theorem dL_law_1334 : decode cL_law 1334 = .ok (.iadd, 1) := by decide +kernel
theorem dL_law_1335 : decode cL_law 1335 = .ok (.iaload, 1) := by decide +kernel
theorem dL_law_1336 : decode cL_law 1336 = .ok (.aload_n 0, 1) := by decide +kernel
theorem dL_law_1337 : decode cL_law 1337 = .ok (.iload_n 3, 1) := by decide +kernel
theorem dL_law_1338 : decode cL_law 1338 = .ok (.iconst 2, 1) := by decide +kernel
theorem dL_law_1339 : decode cL_law 1339 = .ok (.iadd, 1) := by decide +kernel
theorem dL_law_1340 : decode cL_law 1340 = .ok (.iaload, 1) := by decide +kernel
theorem dL_law_1341 : decode cL_law 1341 = .ok (.invokevirtual 138, 3) := by decide +kernel
theorem dL_law_1344 : decode cL_law 1344 = .ok (.lcmp, 1) := by decide +kernel
theorem dL_law_1345 : decode cL_law 1345 = .ok (.ifCond .eq 29, 3) := by decide +kernel
theorem dL_law_1348 : decode cL_law 1348 = .ok (.iconst 0, 1) := by decide +kernel
theorem dL_law_1349 : decode cL_law 1349 = .ok (.ireturn, 1) := by decide +kernel
theorem dL_law_1350 : decode cL_law 1350 = .ok (.aload_n 1, 1) := by decide +kernel
theorem dL_law_1351 : decode cL_law 1351 = .ok (.aload_n 0, 1) := by decide +kernel
theorem dL_law_1352 : decode cL_law 1352 = .ok (.iload_n 3, 1) := by decide +kernel
theorem dL_law_1353 : decode cL_law 1353 = .ok (.iconst 1, 1) := by decide +kernel
theorem dL_law_1354 : decode cL_law 1354 = .ok (.iadd, 1) := by decide +kernel
theorem dL_law_1355 : decode cL_law 1355 = .ok (.iaload, 1) := by decide +kernel
theorem dL_law_1356 : decode cL_law 1356 = .ok (.invokevirtual 139, 3) := by decide +kernel
theorem dL_law_1359 : decode cL_law 1359 = .ok (.aload_n 2, 1) := by decide +kernel
theorem dL_law_1360 : decode cL_law 1360 = .ok (.aload_n 0, 1) := by decide +kernel
theorem dL_law_1361 : decode cL_law 1361 = .ok (.iload_n 3, 1) := by decide +kernel
theorem dL_law_1362 : decode cL_law 1362 = .ok (.iconst 1, 1) := by decide +kernel
theorem dL_law_1363 : decode cL_law 1363 = .ok (.iadd, 1) := by decide +kernel
theorem dL_law_1364 : decode cL_law 1364 = .ok (.iaload, 1) := by decide +kernel
theorem dL_law_1365 : decode cL_law 1365 = .ok (.invokevirtual 142, 3) := by decide +kernel
theorem dL_law_1368 : decode cL_law 1368 = .ok (.lcmp, 1) := by decide +kernel
theorem dL_law_1369 : decode cL_law 1369 = .ok (.ifCond .eq 5, 3) := by decide +kernel
theorem dL_law_1372 : decode cL_law 1372 = .ok (.iconst 0, 1) := by decide +kernel
theorem dL_law_1373 : decode cL_law 1373 = .ok (.ireturn, 1) := by decide +kernel
theorem dL_law_1374 : decode cL_law 1374 = .ok (.iinc 3 6, 3) := by decide +kernel
theorem dL_law_1377 : decode cL_law 1377 = .ok (.goto (-1359), 3) := by decide +kernel
theorem dL_law_1380 : decode cL_law 1380 = .ok (.iconst 1, 1) := by decide +kernel
theorem dL_law_1381 : decode cL_law 1381 = .ok (.ireturn, 1) := by decide +kernel
end
section
/-! the heap of class and reference: a fixed shape; numbers in two tables -/
abbrev Mem : Type := (Nat → Nat → Int32) × (Nat → Nat → Int64)
abbrev Gw : Type := va_G × (Nat → Nat) × (Nat → ClassId) × (Nat → Prop) × Nat
def mi (M : Mem) (k j : Nat) (v : Int32) : Mem := (fun a b => if a = k ∧ b = j then v else M.1 a b, M.2)
def ml (M : Mem) (k j : Nat) (v : Int64) : Mem := (M.1, fun a b => if a = k ∧ b = j then v else M.2 a b)
def mci (M : Mem) (k0 k1 sp dp n : Nat) : Mem := (fun a => if a = k1 then va_cpy (M.1 k0) (M.1 k1) sp dp n else M.1 a, M.2)
def mcl (M : Mem) (k0 k1 sp dp n : Nat) : Mem := (M.1, fun a => if a = k1 then va_cpy (M.2 k0) (M.2 k1) sp dp n else M.2 a)
def NC : Nat := 174
def shp (k : Nat) : Nat :=
  if k < 6 then (if k = 0 then 6 else if k = 1 then 2 else if k = 2 then 9 else if k = 3 then 12 else if k = 4 then 9 else 13)
  else if k < 36 then 0 else if k < 67 then 3 else if k < 98 then 10 else if k < 129 then 9
  else if k < 133 then (if k = 129 then 5 else 9)
  else if k < 135 then (if k = 133 then 14 else 15)
  else if k < 139 then 1 else if k < 143 then 10 else if k < 147 then 4 else if k < 151 then 9
  else if k = 151 then 7
  else if k < 174 then (if k = 157 then 10 else if k = 171 then 11 else if k = 172 then 11 else 9)
  else 16
def ln (k : Nat) : Nat :=
  if k < 6 then (if k = 2 then 10 else if k = 5 then 31 else 30)
  else if k < 129 then 10
  else if k < 133 then 20
  else if k < 135 then 4
  else if k < 143 then 11 else if k < 151 then 36
  else if k < 153 then 10 else if k < 158 then 30 else if k = 158 then 4 else if k = 159 then 144 else if k < 163 then 20
  else if k < 165 then 4 else if k = 165 then 144 else if k < 168 then 30 else if k = 168 then 1116 else if k = 169 then 310
  else if k = 170 then 30 else if k = 171 then 310 else if k = 172 then 30 else 36
def rf (o j : Nat) : Nat :=
  if o = 0 then (if j = 0 then 1 else if j = 1 then 129 else if j = 2 then 133 else 134)
  else if o = 1 then 2 + j
  else if o < 67 then (if j = 0 then o + 31 else o + 62)
  else if o = 129 then 130 + j
  else if o < 147 then o + 4
  else 148 + j
def ra (k i : Nat) : Nat := if k = 3 then 6 + i else if k = 5 then 36 + i else if k = 133 then 135 + i else 143 + i
def fk (ci : Nat) : List Nat := match ci with
  | 0 => [0, 0, 0, 0, 1, 0, 0, 1]
  | 1 => [2, 0]
  | 2 => [2, 2, 2, 2, 0, 0]
  | 3 => [2, 2, 0]
  | 4 => [2, 0, 0]
  | 5 => [2, 2, 2, 0]
  | 6 => [2, 2, 2, 2, 0]
  | _ => [0, 0, 0, 1, 2, 2, 2, 2, 2, 2, 2, 2, 2, 2, 2, 2, 2, 2, 2, 2, 2, 2, 2, 2, 2, 2]
def adr (G : Gw) (k : Nat) : Nat := G.2.1 k
def fval (G : Gw) (M : Mem) (o j t : Nat) : Value := if t = 0 then .int (M.1 o j) else if t = 1 then .long (M.2 o j) else .ref (adr G (rf o j))
def flds (G : Gw) (M : Mem) (ci o : Nat) : List Value := (fk ci).mapIdx (fun j t => fval G M o j t)
def cel (G : Gw) (M : Mem) (k : Nat) : va_E :=
  if shp k < 9 then .inr (shp k, flds G M (shp k) k)
  else if shp k = 10 then .inl (G.2.2.1 1, ln k, .inr (.inl (M.2 k)))
  else if shp k < 12 then .inl (G.2.2.1 (shp k - 9), ln k, .inl (M.1 k))
  else .inl (G.2.2.1 (shp k - 9), ln k, .inr (.inr (.inr (.inr (fun i => some (adr G (ra k i)))))))
def tysL (cA : Nat → ClassId) : List (ClassId × FieldType) := [(cA 0, .int), (cA 1, .long), (cA 2, .boolean), (cA 3, .object "ShireLines$Act"), (cA 4, .object "ShireLines$Moment"), (cA 5, .object "ShireLines$Chart"), (cA 6, .object "ShireLines$Sheet")]
def WL (G : Gw) (M : Mem) : va_W := (List.range NC).map (fun k => (adr G k, cel G M k))
def PH (G : Gw) (M : Mem) (H : Heap) : Prop := va_P G.1 vwCl (WL G M) H
theorem shp_ge {k : Nat} (h : 174 ≤ k) : shp k = 16 := by
  unfold shp
  rw [if_neg (by omega), if_neg (by omega), if_neg (by omega), if_neg (by omega), if_neg (by omega), if_neg (by omega), if_neg (by omega), if_neg (by omega), if_neg (by omega), if_neg (by omega), if_neg (by omega), if_neg (by omega), if_neg (by omega)]
theorem shp_lt {k : Nat} (h : shp k < 16) : k < NC := by
  rcases Nat.lt_or_ge k 174 with z | z
  · exact z
  · rw [shp_ge z] at h; omega
theorem WL_at {G : Gw} {M : Mem} {k : Nat} (h : k < NC) : (WL G M)[k]? = some (adr G k, cel G M k) := by
  simp [WL, h]
theorem WL_set {G : Gw} {M M' : Mem} {o : Nat} {x : va_E} (ho : o < NC) (h1 : cel G M' o = x) (h2 : ∀ k, k ≠ o → cel G M' k = cel G M k) : (WL G M).set o (adr G o, x) = WL G M' := by
  apply List.ext_getElem?
  intro i
  by_cases hi : i < NC
  · by_cases hio : i = o
    · subst hio
      rw [List.getElem?_set_self (by simpa [WL] using hi), WL_at hi, h1]
    · rw [List.getElem?_set_ne (Ne.symm hio), WL_at hi, WL_at hi, h2 i hio]
  · rw [List.getElem?_eq_none (by simp [WL]; omega), List.getElem?_eq_none (by simp [WL]; omega)]
theorem cel_obj {G : Gw} {M : Mem} {o ci : Nat} (ho : shp o = ci) (h9 : ci < 9) : cel G M o = .inr (ci, flds G M ci o) := by
  subst ho; simp [cel, h9]
theorem cel_i {G : Gw} {M : Mem} {k : Nat} (h : shp k = 9) : cel G M k = .inl (G.2.2.1 0, ln k, .inl (M.1 k)) := by simp [cel, h]
theorem cel_l {G : Gw} {M : Mem} {k : Nat} (h : shp k = 10) : cel G M k = .inl (G.2.2.1 1, ln k, .inr (.inl (M.2 k))) := by simp [cel, h]
theorem cel_z {G : Gw} {M : Mem} {k : Nat} (h : shp k = 11) : cel G M k = .inl (G.2.2.1 2, ln k, .inl (M.1 k)) := by simp [cel, h]
theorem cel_r {G : Gw} {M : Mem} {k : Nat} (h : 12 ≤ shp k) : cel G M k = .inl (G.2.2.1 (shp k - 9), ln k, .inr (.inr (.inr (.inr (fun i => some (adr G (ra k i))))))) := by
  have h1 : ¬ shp k < 9 := by omega
  have h2 : ¬ shp k = 10 := by omega
  have h3 : ¬ shp k < 12 := by omega
  simp [cel, h1, h2, h3]
theorem flds_mi {G : Gw} {M : Mem} {k o j ci : Nat} {v : Int32} (h : k ≠ o) : flds G (mi M o j v) ci k = flds G M ci k := by
  have e : ∀ i t, fval G (mi M o j v) k i t = fval G M k i t := fun i t => by simp [fval, mi, h]
  simp [flds, e]
theorem flds_ml {G : Gw} {M : Mem} {k o j ci : Nat} {v : Int64} (h : k ≠ o) : flds G (ml M o j v) ci k = flds G M ci k := by
  have e : ∀ i t, fval G (ml M o j v) k i t = fval G M k i t := fun i t => by simp [fval, ml, h]
  simp [flds, e]
theorem cel_mi {G : Gw} {M : Mem} {o j : Nat} {v : Int32} : ∀ k, k ≠ o → cel G (mi M o j v) k = cel G M k := by
  intro k h
  have e1 : (mi M o j v).1 k = M.1 k := by funext b; simp [mi, h]
  have e2 : (mi M o j v).2 = M.2 := rfl
  unfold cel
  rw [flds_mi h, e1, e2]
theorem cel_ml {G : Gw} {M : Mem} {o j : Nat} {v : Int64} : ∀ k, k ≠ o → cel G (ml M o j v) k = cel G M k := by
  intro k h
  have e1 : (ml M o j v).2 k = M.2 k := by funext b; simp [ml, h]
  have e2 : (ml M o j v).1 = M.1 := rfl
  unfold cel
  rw [flds_ml h, e1, e2]
theorem flds_at {G : Gw} {M : Mem} {ci o j t : Nat} (h : (fk ci)[j]? = some t) : (flds G M ci o)[j]? = some (fval G M o j t) := by
  simp [flds, List.getElem?_mapIdx, h]
theorem flds_seti {G : Gw} {M : Mem} {ci o j : Nat} {v : Int32} (h : (fk ci)[j]? = some 0) : (flds G M ci o).set j (.int v) = flds G (mi M o j v) ci o := by
  apply List.ext_getElem?
  intro i
  by_cases hij : i = j
  · subst hij
    have hl : i < (fk ci).length := (List.getElem?_eq_some_iff.mp h).1
    rw [List.getElem?_set_self (by simpa [flds] using hl), flds_at h]
    simp [fval, mi]
  · rw [List.getElem?_set_ne (Ne.symm hij)]
    simp only [flds, List.getElem?_mapIdx]
    congr 1
    funext t
    simp [fval, mi, hij]
theorem flds_setl {G : Gw} {M : Mem} {ci o j : Nat} {v : Int64} (h : (fk ci)[j]? = some 1) : (flds G M ci o).set j (.long v) = flds G (ml M o j v) ci o := by
  apply List.ext_getElem?
  intro i
  by_cases hij : i = j
  · subst hij
    have hl : i < (fk ci).length := (List.getElem?_eq_some_iff.mp h).1
    rw [List.getElem?_set_self (by simpa [flds] using hl), flds_at h]
    simp [fval, ml]
  · rw [List.getElem?_set_ne (Ne.symm hij)]
    simp only [flds, List.getElem?_mapIdx]
    congr 1
    funext t
    simp [fval, ml, hij]
/-! words -/
def lwT : List Cond := lw_tbl.filter goodWord
def isNF : Cond → Bool
  | .fieldLinkNest .. => true
  | _ => false
def nstT : List Cond := lw_tbl.filter isNF
theorem inW {w : Cond} (h : w ∈ lw_tbl) (g : goodWord w = true) : w ∈ lwT := List.mem_filter.mpr ⟨h, g⟩
theorem inN {w : Cond} (h : w ∈ lw_tbl) (g : isNF w = true) : w ∈ nstT := List.mem_filter.mpr ⟨h, g⟩
theorem goodT {y : MethodName} {cc : ByteArray} {nL : Nat} {ret : Option FieldType} (h : Cond.code y cc nL ret ∈ lwT) : GoodIn lwT (.code y cc nL ret :: lwT) := by
  intro w hw
  have hm : w ∈ lwT := by
    rcases List.mem_cons.mp hw with rfl | hw
    · exact h
    · exact hw
  exact ⟨hm, good_of_word (List.mem_filter.mp hm).2⟩
def kov : Nat → Value := fun j => .int (if j = 0 then -1 else if j = 1 then 0 else if j = 2 then 1 else 0)
def GD (G : Gw) : Prop := (∀ i j, i < NC → j < NC → adr G i = adr G j → i = j) ∧ ∀ k, k < NC → G.2.2.2.1 (adr G k)
def GS (G : Gw) (s : State) : Prop := GD G ∧ va_K G.1 vwCl (tysL G.2.2.1) s ∧ (∀ w ∈ nstT, va_Nw w s) ∧ va_Z "ShireLines" "KIND_OVER" "[I" (.ref G.2.2.2.2) G.2.2.2.1 s s.heap ∧ va_T .int G.2.2.2.2 4 kov G.2.2.2.1 s s.heap
theorem GD.D {G : Gw} {M : Mem} (h : GD G) : va_D G.2.2.2.1 (WL G M) := by
  have key : ∀ (k : Nat) (q : Nat × va_E), (WL G M)[k]? = some q → k < NC ∧ q.1 = adr G k := by
    intro k q hk
    have hl : k < NC := by
      have := (List.getElem?_eq_some_iff.mp hk).1
      simpa [WL] using this
    rw [WL_at hl] at hk
    cases hk
    exact ⟨hl, rfl⟩
  refine ⟨fun i j x y hi hj hxy => ?_, fun k q hk => ?_⟩
  · obtain ⟨a1, a2⟩ := key i x hi
    obtain ⟨b1, b2⟩ := key j y hj
    exact h.1 i j a1 b1 (by rw [← a2, ← b2]; exact hxy)
  · obtain ⟨a1, a2⟩ := key k q hk
    rw [a2]
    exact h.2 k a1
theorem nest_warm {w : Cond} (hw : w ∈ nstT) {s U : State} (hW : s.WarmedH U.vm) (h : va_Nw w s) : va_Nw w U := by
  have g := (List.mem_filter.mp hw).2
  cases w <;> first | exact va_Nw.warmF hW h | (simp [isNF] at g; done)
theorem nest_on {w : Cond} (hw : w ∈ nstT) : w.onTables = true := by
  have g := (List.mem_filter.mp hw).2
  cases w <;> first | rfl | (simp [isNF] at g; done)
theorem GS.warm {G : Gw} {s U : State} {H : Heap} {locs : List Loc} (h : GS G s) (hS : va_S G.2.2.2.1 s.heap H locs) (hU : U.heap = H) (hW : s.WarmedH U.vm) : GS G U := by
  obtain ⟨h1, h2, h3, h4, h5⟩ := h
  refine ⟨h1, va_K.moved hW.alike h2, fun w hw => nest_warm hw hW (h3 w hw), ?_, ?_⟩
  · rw [hU]; exact va_Z.moved hW.alike (h4.kept hS.2.1)
  · rw [hU]; exact va_T.moved hW.alike (h5.kept hS.2.1)
theorem GS.blind {G : Gw} {U : State} {g : JFrame} {mk : MethodId} {a : Array Value} (h : GS G U) : GS G (U.calling g mk a) := by
  obtain ⟨h1, h2, h3, h4, h5⟩ := h
  exact ⟨h1, va_K.moved (u := U) (U := U.calling g mk a) (Vm.Alike.refl U.vm) h2, fun w hw => va_Nw.same (u := U) (U := U.calling g mk a) (nest_on hw) rfl (h3 w hw), va_Z.moved (u := U) (U := U.calling g mk a) (Vm.Alike.refl U.vm) h4, va_T.moved (u := U) (U := U.calling g mk a) (Vm.Alike.refl U.vm) h5⟩
/-! the judgements -/
def Cx (G : Gw) (own : String) (cc : ByteArray) (nL : Nat) (ret : Option FieldType) (p : Program) (s : State) (m : MethodId) (args : Array Value) (meth : Method) (c : Code) : Prop :=
  p.tables.exec = Jvm.exec ∧ c.code = cc ∧ meth.sig.returnType = ret ∧ meth.locks = false ∧ c.maxLocals = nL ∧ s.vm.findClass own = some m.cls ∧ (∀ w ∈ lwT, w.before args s = true) ∧ GS G s
def V (G : Gw) (l : Launch) (own : String) (cc : ByteArray) (nL : Nat) (ret : Option FieldType) (R : Room) (kc ks : Nat) (Fn : Array Value → List Frame → State → State → Prop) (pc : Nat) (lv : List (Nat × Value)) (st : List Value) (M : Mem) : Prop :=
  ∀ (p : Program) (e : Env) (s : State) (m : MethodId) (args : Array Value) (below : List Frame) (meth : Method) (c : Code) (H : Heap) (locs : List Loc) (ls : Array Slot), Cx G own cc nL ret p s m args meth c → PH G M H → va_S G.2.2.2.1 s.heap H locs → lv_has ls nL lv →
    W p l e R s m args below meth c H locs kc ks (Fn args below s) (F0 m pc ls st)
def T (G : Gw) (l : Launch) (own : String) (cc : ByteArray) (nL : Nat) (ret : Option FieldType) (R : Room) (kc ks : Nat) (Fn : Array Value → List Frame → State → State → Prop) {α : Type} (Dn : α → Prop) (pc : Nat) (lv : List (Nat × Value)) (st : List Value) (M : Mem) (r : Option α) : Prop :=
  ∀ a : α, r = some a → Dn a → V G l own cc nL ret R kc ks Fn pc lv st M
def lt {α β : Type} (x : α) (K : α → β) : β := K x
def gi {α : Type} (i : Int32) (n : Nat) (E : Option α) : Option α := if 0 ≤ i.toInt ∧ i.toInt < (n : Int) then E else none
def gd {α : Type} (c : Prop) (hc : Decidable c) (E : Option α) : Option α := if c then E else none
def gz {α : Type} (i : Int32) (E : Option α) : Option α := if i = 0 then none else E
def gzl {α : Type} (i : Int64) (E : Option α) : Option α := if i = 0 then none else E
def gb {α : Type} (i : Int32) (E : Option α) : Option α := if i = 0 ∨ i = 1 then E else none
def gcp {α : Type} (n0 n1 : Nat) (sp dp n : Int32) (E : Option α) : Option α := if ¬ sp < 0 ∧ ¬ dp < 0 ∧ ¬ n < 0 ∧ sp.toNatClampNeg + n.toNatClampNeg ≤ n0 ∧ dp.toNatClampNeg + n.toNatClampNeg ≤ n1 then E else none
def itN {S R : Type} (b : S → Option (S ⊕ R)) : Nat → S → Option R
  | 0, _ => none
  | n + 1, s => match b s with
    | none => none
    | some (.inl s') => itN b n s'
    | some (.inr r) => some r
noncomputable def wh {S R : Type} (b : S → Option (S ⊕ R)) (s : S) : Option R := @dite (Option R) (∃ r, ∃ n, itN b n s = some r) (Classical.propDecidable _) (fun h => some (Classical.choose h)) (fun _ => none)
theorem itN_mono {S R : Type} {b : S → Option (S ⊕ R)} : ∀ (n : Nat) (s : S) (r : R), itN b n s = some r → ∀ k, itN b (n + k) s = some r
  | 0, s, r, h, _ => by simp [itN] at h
  | n + 1, s, r, h, k => by
    rw [show n + 1 + k = (n + k) + 1 from by omega]
    unfold itN at h ⊢
    cases hb : b s with
    | none => rw [hb] at h; exact h
    | some q =>
      rw [hb] at h
      cases q with
      | inl s' => exact itN_mono n s' r h k
      | inr r' => exact h
theorem itN_det {S R : Type} {b : S → Option (S ⊕ R)} {n k : Nat} {s : S} {r r' : R} (h : itN b n s = some r) (h' : itN b k s = some r') : r = r' := by
  have h1 := itN_mono n s r h k
  have h2 := itN_mono k s r' h' n
  rw [Nat.add_comm] at h2
  exact Option.some.inj (h1.symm.trans h2)
theorem wh_ex {S R : Type} {b : S → Option (S ⊕ R)} {s : S} {r : R} (h : wh b s = some r) : ∃ n, itN b n s = some r := by
  unfold wh at h
  split at h
  · rename_i hx
    cases h
    exact Classical.choose_spec hx
  · cases h
theorem wh_of {S R : Type} {b : S → Option (S ⊕ R)} {s : S} {r : R} {n : Nat} (h : itN b n s = some r) : wh b s = some r := by
  have hx : ∃ r, ∃ n, itN b n s = some r := ⟨r, n, h⟩
  unfold wh
  rw [dif_pos hx]
  obtain ⟨k, hk⟩ := Classical.choose_spec hx
  rw [itN_det hk h]
theorem wh_inl {S R : Type} {b : S → Option (S ⊕ R)} {s s' : S} (h : b s = some (.inl s')) : wh b s = wh b s' := by
  cases h2 : wh b s' with
  | some r =>
    obtain ⟨n, hn⟩ := wh_ex h2
    exact wh_of (n := n + 1) (by unfold itN; rw [h]; exact hn)
  | none =>
    cases h1 : wh b s with
    | none => rfl
    | some r =>
      obtain ⟨n, hn⟩ := wh_ex h1
      cases n with
      | zero => simp [itN] at hn
      | succ n =>
        unfold itN at hn
        rw [h] at hn
        rw [wh_of hn] at h2
        cases h2
theorem wh_inr {S R : Type} {b : S → Option (S ⊕ R)} {s : S} {r : R} (h : b s = some (.inr r)) : wh b s = some r := wh_of (n := 1) (by unfold itN; rw [h])
section VROWS
variable {G : Gw} {l : Launch} {own : String} {cc : ByteArray} {nL : Nat} {ret : Option FieldType} {R : Room} {kc ks : Nat} {Fn : Array Value → List Frame → State → State → Prop} {α : Type} {Dn : α → Prop} {pc : Nat} {lv : List (Nat × Value)} {st : List Value} {M : Mem} {r : Option α}
theorem V_iconst {n : Int} {v : Int32} (hd : decode cc pc = .ok (.iconst n, 1)) (hv : Int32.ofInt n = v) (k : V G l own cc nL ret R kc ks Fn (pc + 1) lv (.int v :: st) M) : V G l own cc nL ret R kc ks Fn pc lv (st) M := fun p e s m args below meth c H locs ls C hP hS hl => lv_iconst C.1 C.2.1 hd hv (k p e s m args below meth c H locs ls C hP hS hl)
theorem T_iconst {n : Int} {v : Int32} (hd : decode cc pc = .ok (.iconst n, 1)) (hv : Int32.ofInt n = v) (k : T G l own cc nL ret R kc ks Fn Dn (pc + 1) lv (.int v :: st) M r) : T G l own cc nL ret R kc ks Fn Dn pc lv (st) M r := fun a h d => V_iconst hd hv (k a h d)
theorem V_bipush {n : Int} {v : Int32} (hd : decode cc pc = .ok (.bipush n, 2)) (hv : (Int8.ofInt n).toInt32 = v) (k : V G l own cc nL ret R kc ks Fn (pc + 2) lv (.int v :: st) M) : V G l own cc nL ret R kc ks Fn pc lv (st) M := fun p e s m args below meth c H locs ls C hP hS hl => lv_bipush C.1 C.2.1 hd hv (k p e s m args below meth c H locs ls C hP hS hl)
theorem T_bipush {n : Int} {v : Int32} (hd : decode cc pc = .ok (.bipush n, 2)) (hv : (Int8.ofInt n).toInt32 = v) (k : T G l own cc nL ret R kc ks Fn Dn (pc + 2) lv (.int v :: st) M r) : T G l own cc nL ret R kc ks Fn Dn pc lv (st) M r := fun a h d => V_bipush hd hv (k a h d)
theorem V_sipush {n : Int} {v : Int32} (hd : decode cc pc = .ok (.sipush n, 3)) (hv : (Int16.ofInt n).toInt32 = v) (k : V G l own cc nL ret R kc ks Fn (pc + 3) lv (.int v :: st) M) : V G l own cc nL ret R kc ks Fn pc lv (st) M := fun p e s m args below meth c H locs ls C hP hS hl => lv_sipush C.1 C.2.1 hd hv (k p e s m args below meth c H locs ls C hP hS hl)
theorem T_sipush {n : Int} {v : Int32} (hd : decode cc pc = .ok (.sipush n, 3)) (hv : (Int16.ofInt n).toInt32 = v) (k : T G l own cc nL ret R kc ks Fn Dn (pc + 3) lv (.int v :: st) M r) : T G l own cc nL ret R kc ks Fn Dn pc lv (st) M r := fun a h d => V_sipush hd hv (k a h d)
theorem V_lconst {n : Fin 2} {v : Int64} (hd : decode cc pc = .ok (.lconst n, 1)) (hv : Int64.ofNat (n : Nat) = v) (k : V G l own cc nL ret R kc ks Fn (pc + 1) lv (.long v :: st) M) : V G l own cc nL ret R kc ks Fn pc lv (st) M := fun p e s m args below meth c H locs ls C hP hS hl => lv_lconst C.1 C.2.1 hd hv (k p e s m args below meth c H locs ls C hP hS hl)
theorem T_lconst {n : Fin 2} {v : Int64} (hd : decode cc pc = .ok (.lconst n, 1)) (hv : Int64.ofNat (n : Nat) = v) (k : T G l own cc nL ret R kc ks Fn Dn (pc + 1) lv (.long v :: st) M r) : T G l own cc nL ret R kc ks Fn Dn pc lv (st) M r := fun a h d => V_lconst hd hv (k a h d)
theorem V_ldc {idx : Nat} {v : Int32} (hd : decode cc pc = .ok (.ldc idx, 2)) (hw : Cond.constant own idx v ∈ lwT) (k : V G l own cc nL ret R kc ks Fn (pc + 2) lv (.int v :: st) M) : V G l own cc nL ret R kc ks Fn pc lv (st) M := fun p e s m args below meth c H locs ls C hP hS hl => lv_ldc C.1 C.2.1 C.2.2.2.2.2.1 (C.2.2.2.2.2.2.1 _ hw) hd (k p e s m args below meth c H locs ls C hP hS hl)
theorem T_ldc {idx : Nat} {v : Int32} (hd : decode cc pc = .ok (.ldc idx, 2)) (hw : Cond.constant own idx v ∈ lwT) (k : T G l own cc nL ret R kc ks Fn Dn (pc + 2) lv (.int v :: st) M r) : T G l own cc nL ret R kc ks Fn Dn pc lv (st) M r := fun a h d => V_ldc hd hw (k a h d)
theorem V_ldc2 {idx : Nat} {v : Int64} (hd : decode cc pc = .ok (.ldc2_w idx, 3)) (hw : Cond.constantLong own idx v ∈ lwT) (k : V G l own cc nL ret R kc ks Fn (pc + 3) lv (.long v :: st) M) : V G l own cc nL ret R kc ks Fn pc lv (st) M := fun p e s m args below meth c H locs ls C hP hS hl => lv_ldc2 C.1 C.2.1 C.2.2.2.2.2.1 (C.2.2.2.2.2.2.1 _ hw) hd (k p e s m args below meth c H locs ls C hP hS hl)
theorem T_ldc2 {idx : Nat} {v : Int64} (hd : decode cc pc = .ok (.ldc2_w idx, 3)) (hw : Cond.constantLong own idx v ∈ lwT) (k : T G l own cc nL ret R kc ks Fn Dn (pc + 3) lv (.long v :: st) M r) : T G l own cc nL ret R kc ks Fn Dn pc lv (st) M r := fun a h d => V_ldc2 hd hw (k a h d)
theorem V_iload_n {kk : Fin 4} {i q : Nat} {x : Int32} (hd : decode cc pc = .ok (.iload_n kk, 1)) (hi : (kk : Nat) = i) (hq : lv[q]? = some (i, .int x)) (k : V G l own cc nL ret R kc ks Fn (pc + 1) lv (.int x :: st) M) : V G l own cc nL ret R kc ks Fn pc lv (st) M := fun p e s m args below meth c H locs ls C hP hS hl => lv_iload_n C.1 C.2.1 hd hi (lv_at hl q hq) (k p e s m args below meth c H locs ls C hP hS hl)
theorem T_iload_n {kk : Fin 4} {i q : Nat} {x : Int32} (hd : decode cc pc = .ok (.iload_n kk, 1)) (hi : (kk : Nat) = i) (hq : lv[q]? = some (i, .int x)) (k : T G l own cc nL ret R kc ks Fn Dn (pc + 1) lv (.int x :: st) M r) : T G l own cc nL ret R kc ks Fn Dn pc lv (st) M r := fun a h d => V_iload_n hd hi hq (k a h d)
theorem V_iload {i q : Nat} {x : Int32} (hd : decode cc pc = .ok (.iload i, 2)) (hq : lv[q]? = some (i, .int x)) (k : V G l own cc nL ret R kc ks Fn (pc + 2) lv (.int x :: st) M) : V G l own cc nL ret R kc ks Fn pc lv (st) M := fun p e s m args below meth c H locs ls C hP hS hl => lv_iload C.1 C.2.1 hd (lv_at hl q hq) (k p e s m args below meth c H locs ls C hP hS hl)
theorem T_iload {i q : Nat} {x : Int32} (hd : decode cc pc = .ok (.iload i, 2)) (hq : lv[q]? = some (i, .int x)) (k : T G l own cc nL ret R kc ks Fn Dn (pc + 2) lv (.int x :: st) M r) : T G l own cc nL ret R kc ks Fn Dn pc lv (st) M r := fun a h d => V_iload hd hq (k a h d)
theorem V_lload_n {kk : Fin 4} {i q : Nat} {x : Int64} (hd : decode cc pc = .ok (.lload_n kk, 1)) (hi : (kk : Nat) = i) (hq : lv[q]? = some (i, .long x)) (k : V G l own cc nL ret R kc ks Fn (pc + 1) lv (.long x :: st) M) : V G l own cc nL ret R kc ks Fn pc lv (st) M := fun p e s m args below meth c H locs ls C hP hS hl => lv_lload_n C.1 C.2.1 hd hi (lv_at hl q hq) (k p e s m args below meth c H locs ls C hP hS hl)
theorem T_lload_n {kk : Fin 4} {i q : Nat} {x : Int64} (hd : decode cc pc = .ok (.lload_n kk, 1)) (hi : (kk : Nat) = i) (hq : lv[q]? = some (i, .long x)) (k : T G l own cc nL ret R kc ks Fn Dn (pc + 1) lv (.long x :: st) M r) : T G l own cc nL ret R kc ks Fn Dn pc lv (st) M r := fun a h d => V_lload_n hd hi hq (k a h d)
theorem V_lload {i q : Nat} {x : Int64} (hd : decode cc pc = .ok (.lload i, 2)) (hq : lv[q]? = some (i, .long x)) (k : V G l own cc nL ret R kc ks Fn (pc + 2) lv (.long x :: st) M) : V G l own cc nL ret R kc ks Fn pc lv (st) M := fun p e s m args below meth c H locs ls C hP hS hl => lv_lload C.1 C.2.1 hd (lv_at hl q hq) (k p e s m args below meth c H locs ls C hP hS hl)
theorem T_lload {i q : Nat} {x : Int64} (hd : decode cc pc = .ok (.lload i, 2)) (hq : lv[q]? = some (i, .long x)) (k : T G l own cc nL ret R kc ks Fn Dn (pc + 2) lv (.long x :: st) M r) : T G l own cc nL ret R kc ks Fn Dn pc lv (st) M r := fun a h d => V_lload hd hq (k a h d)
theorem V_aload_n {kk : Fin 4} {i q : Nat} {x : Nat} (hd : decode cc pc = .ok (.aload_n kk, 1)) (hi : (kk : Nat) = i) (hq : lv[q]? = some (i, .ref x)) (k : V G l own cc nL ret R kc ks Fn (pc + 1) lv (.ref x :: st) M) : V G l own cc nL ret R kc ks Fn pc lv (st) M := fun p e s m args below meth c H locs ls C hP hS hl => lv_aload_n C.1 C.2.1 hd hi (lv_at hl q hq) (k p e s m args below meth c H locs ls C hP hS hl)
theorem T_aload_n {kk : Fin 4} {i q : Nat} {x : Nat} (hd : decode cc pc = .ok (.aload_n kk, 1)) (hi : (kk : Nat) = i) (hq : lv[q]? = some (i, .ref x)) (k : T G l own cc nL ret R kc ks Fn Dn (pc + 1) lv (.ref x :: st) M r) : T G l own cc nL ret R kc ks Fn Dn pc lv (st) M r := fun a h d => V_aload_n hd hi hq (k a h d)
theorem V_aload {i q : Nat} {x : Nat} (hd : decode cc pc = .ok (.aload i, 2)) (hq : lv[q]? = some (i, .ref x)) (k : V G l own cc nL ret R kc ks Fn (pc + 2) lv (.ref x :: st) M) : V G l own cc nL ret R kc ks Fn pc lv (st) M := fun p e s m args below meth c H locs ls C hP hS hl => lv_aload C.1 C.2.1 hd (lv_at hl q hq) (k p e s m args below meth c H locs ls C hP hS hl)
theorem T_aload {i q : Nat} {x : Nat} (hd : decode cc pc = .ok (.aload i, 2)) (hq : lv[q]? = some (i, .ref x)) (k : T G l own cc nL ret R kc ks Fn Dn (pc + 2) lv (.ref x :: st) M r) : T G l own cc nL ret R kc ks Fn Dn pc lv (st) M r := fun a h d => V_aload hd hq (k a h d)
theorem V_iadd {x y : Int32} (hd : decode cc pc = .ok (.iadd, 1))  (k : V G l own cc nL ret R kc ks Fn (pc + 1) lv (.int (x + y) :: st) M) : V G l own cc nL ret R kc ks Fn pc lv (.int y :: .int x :: st) M := fun p e s m args below meth c H locs ls C hP hS hl => lv_iadd C.1 C.2.1 hd (k p e s m args below meth c H locs ls C hP hS hl)
theorem T_iadd {x y : Int32} (hd : decode cc pc = .ok (.iadd, 1))  (k : T G l own cc nL ret R kc ks Fn Dn (pc + 1) lv (.int (x + y) :: st) M r) : T G l own cc nL ret R kc ks Fn Dn pc lv (.int y :: .int x :: st) M r := fun a h d => V_iadd hd  (k a h d)
theorem V_isub {x y : Int32} (hd : decode cc pc = .ok (.isub, 1))  (k : V G l own cc nL ret R kc ks Fn (pc + 1) lv (.int (x - y) :: st) M) : V G l own cc nL ret R kc ks Fn pc lv (.int y :: .int x :: st) M := fun p e s m args below meth c H locs ls C hP hS hl => lv_isub C.1 C.2.1 hd (k p e s m args below meth c H locs ls C hP hS hl)
theorem T_isub {x y : Int32} (hd : decode cc pc = .ok (.isub, 1))  (k : T G l own cc nL ret R kc ks Fn Dn (pc + 1) lv (.int (x - y) :: st) M r) : T G l own cc nL ret R kc ks Fn Dn pc lv (.int y :: .int x :: st) M r := fun a h d => V_isub hd  (k a h d)
theorem V_imul {x y : Int32} (hd : decode cc pc = .ok (.imul, 1))  (k : V G l own cc nL ret R kc ks Fn (pc + 1) lv (.int (x * y) :: st) M) : V G l own cc nL ret R kc ks Fn pc lv (.int y :: .int x :: st) M := fun p e s m args below meth c H locs ls C hP hS hl => lv_imul C.1 C.2.1 hd (k p e s m args below meth c H locs ls C hP hS hl)
theorem T_imul {x y : Int32} (hd : decode cc pc = .ok (.imul, 1))  (k : T G l own cc nL ret R kc ks Fn Dn (pc + 1) lv (.int (x * y) :: st) M r) : T G l own cc nL ret R kc ks Fn Dn pc lv (.int y :: .int x :: st) M r := fun a h d => V_imul hd  (k a h d)
theorem V_iand {x y : Int32} (hd : decode cc pc = .ok (.iand, 1))  (k : V G l own cc nL ret R kc ks Fn (pc + 1) lv (.int (x &&& y) :: st) M) : V G l own cc nL ret R kc ks Fn pc lv (.int y :: .int x :: st) M := fun p e s m args below meth c H locs ls C hP hS hl => lv_iand C.1 C.2.1 hd (k p e s m args below meth c H locs ls C hP hS hl)
theorem T_iand {x y : Int32} (hd : decode cc pc = .ok (.iand, 1))  (k : T G l own cc nL ret R kc ks Fn Dn (pc + 1) lv (.int (x &&& y) :: st) M r) : T G l own cc nL ret R kc ks Fn Dn pc lv (.int y :: .int x :: st) M r := fun a h d => V_iand hd  (k a h d)
theorem V_ior {x y : Int32} (hd : decode cc pc = .ok (.ior, 1))  (k : V G l own cc nL ret R kc ks Fn (pc + 1) lv (.int (x ||| y) :: st) M) : V G l own cc nL ret R kc ks Fn pc lv (.int y :: .int x :: st) M := fun p e s m args below meth c H locs ls C hP hS hl => lv_ior C.1 C.2.1 hd (k p e s m args below meth c H locs ls C hP hS hl)
theorem T_ior {x y : Int32} (hd : decode cc pc = .ok (.ior, 1))  (k : T G l own cc nL ret R kc ks Fn Dn (pc + 1) lv (.int (x ||| y) :: st) M r) : T G l own cc nL ret R kc ks Fn Dn pc lv (.int y :: .int x :: st) M r := fun a h d => V_ior hd  (k a h d)
theorem V_ixor {x y : Int32} (hd : decode cc pc = .ok (.ixor, 1))  (k : V G l own cc nL ret R kc ks Fn (pc + 1) lv (.int (x ^^^ y) :: st) M) : V G l own cc nL ret R kc ks Fn pc lv (.int y :: .int x :: st) M := fun p e s m args below meth c H locs ls C hP hS hl => lv_ixor C.1 C.2.1 hd (k p e s m args below meth c H locs ls C hP hS hl)
theorem T_ixor {x y : Int32} (hd : decode cc pc = .ok (.ixor, 1))  (k : T G l own cc nL ret R kc ks Fn Dn (pc + 1) lv (.int (x ^^^ y) :: st) M r) : T G l own cc nL ret R kc ks Fn Dn pc lv (.int y :: .int x :: st) M r := fun a h d => V_ixor hd  (k a h d)
theorem V_ladd {x y : Int64} (hd : decode cc pc = .ok (.ladd, 1))  (k : V G l own cc nL ret R kc ks Fn (pc + 1) lv (.long (x + y) :: st) M) : V G l own cc nL ret R kc ks Fn pc lv (.long y :: .long x :: st) M := fun p e s m args below meth c H locs ls C hP hS hl => lv_ladd C.1 C.2.1 hd (k p e s m args below meth c H locs ls C hP hS hl)
theorem T_ladd {x y : Int64} (hd : decode cc pc = .ok (.ladd, 1))  (k : T G l own cc nL ret R kc ks Fn Dn (pc + 1) lv (.long (x + y) :: st) M r) : T G l own cc nL ret R kc ks Fn Dn pc lv (.long y :: .long x :: st) M r := fun a h d => V_ladd hd  (k a h d)
theorem V_lsub {x y : Int64} (hd : decode cc pc = .ok (.lsub, 1))  (k : V G l own cc nL ret R kc ks Fn (pc + 1) lv (.long (x - y) :: st) M) : V G l own cc nL ret R kc ks Fn pc lv (.long y :: .long x :: st) M := fun p e s m args below meth c H locs ls C hP hS hl => lv_lsub C.1 C.2.1 hd (k p e s m args below meth c H locs ls C hP hS hl)
theorem T_lsub {x y : Int64} (hd : decode cc pc = .ok (.lsub, 1))  (k : T G l own cc nL ret R kc ks Fn Dn (pc + 1) lv (.long (x - y) :: st) M r) : T G l own cc nL ret R kc ks Fn Dn pc lv (.long y :: .long x :: st) M r := fun a h d => V_lsub hd  (k a h d)
theorem V_lmul {x y : Int64} (hd : decode cc pc = .ok (.lmul, 1))  (k : V G l own cc nL ret R kc ks Fn (pc + 1) lv (.long (x * y) :: st) M) : V G l own cc nL ret R kc ks Fn pc lv (.long y :: .long x :: st) M := fun p e s m args below meth c H locs ls C hP hS hl => lv_lmul C.1 C.2.1 hd (k p e s m args below meth c H locs ls C hP hS hl)
theorem T_lmul {x y : Int64} (hd : decode cc pc = .ok (.lmul, 1))  (k : T G l own cc nL ret R kc ks Fn Dn (pc + 1) lv (.long (x * y) :: st) M r) : T G l own cc nL ret R kc ks Fn Dn pc lv (.long y :: .long x :: st) M r := fun a h d => V_lmul hd  (k a h d)
theorem V_land {x y : Int64} (hd : decode cc pc = .ok (.land, 1))  (k : V G l own cc nL ret R kc ks Fn (pc + 1) lv (.long (x &&& y) :: st) M) : V G l own cc nL ret R kc ks Fn pc lv (.long y :: .long x :: st) M := fun p e s m args below meth c H locs ls C hP hS hl => lv_land C.1 C.2.1 hd (k p e s m args below meth c H locs ls C hP hS hl)
theorem T_land {x y : Int64} (hd : decode cc pc = .ok (.land, 1))  (k : T G l own cc nL ret R kc ks Fn Dn (pc + 1) lv (.long (x &&& y) :: st) M r) : T G l own cc nL ret R kc ks Fn Dn pc lv (.long y :: .long x :: st) M r := fun a h d => V_land hd  (k a h d)
theorem V_lor {x y : Int64} (hd : decode cc pc = .ok (.lor, 1))  (k : V G l own cc nL ret R kc ks Fn (pc + 1) lv (.long (x ||| y) :: st) M) : V G l own cc nL ret R kc ks Fn pc lv (.long y :: .long x :: st) M := fun p e s m args below meth c H locs ls C hP hS hl => lv_lor C.1 C.2.1 hd (k p e s m args below meth c H locs ls C hP hS hl)
theorem T_lor {x y : Int64} (hd : decode cc pc = .ok (.lor, 1))  (k : T G l own cc nL ret R kc ks Fn Dn (pc + 1) lv (.long (x ||| y) :: st) M r) : T G l own cc nL ret R kc ks Fn Dn pc lv (.long y :: .long x :: st) M r := fun a h d => V_lor hd  (k a h d)
theorem V_lxor {x y : Int64} (hd : decode cc pc = .ok (.lxor, 1))  (k : V G l own cc nL ret R kc ks Fn (pc + 1) lv (.long (x ^^^ y) :: st) M) : V G l own cc nL ret R kc ks Fn pc lv (.long y :: .long x :: st) M := fun p e s m args below meth c H locs ls C hP hS hl => lv_lxor C.1 C.2.1 hd (k p e s m args below meth c H locs ls C hP hS hl)
theorem T_lxor {x y : Int64} (hd : decode cc pc = .ok (.lxor, 1))  (k : T G l own cc nL ret R kc ks Fn Dn (pc + 1) lv (.long (x ^^^ y) :: st) M r) : T G l own cc nL ret R kc ks Fn Dn pc lv (.long y :: .long x :: st) M r := fun a h d => V_lxor hd  (k a h d)
theorem V_ishl {x y : Int32} (hd : decode cc pc = .ok (.ishl, 1))  (k : V G l own cc nL ret R kc ks Fn (pc + 1) lv (.int (x <<< (y &&& 31)) :: st) M) : V G l own cc nL ret R kc ks Fn pc lv (.int y :: .int x :: st) M := fun p e s m args below meth c H locs ls C hP hS hl => lv_ishl C.1 C.2.1 hd (k p e s m args below meth c H locs ls C hP hS hl)
theorem T_ishl {x y : Int32} (hd : decode cc pc = .ok (.ishl, 1))  (k : T G l own cc nL ret R kc ks Fn Dn (pc + 1) lv (.int (x <<< (y &&& 31)) :: st) M r) : T G l own cc nL ret R kc ks Fn Dn pc lv (.int y :: .int x :: st) M r := fun a h d => V_ishl hd  (k a h d)
theorem V_ineg {x : Int32} (hd : decode cc pc = .ok (.ineg, 1))  (k : V G l own cc nL ret R kc ks Fn (pc + 1) lv (.int (-x) :: st) M) : V G l own cc nL ret R kc ks Fn pc lv (.int x :: st) M := fun p e s m args below meth c H locs ls C hP hS hl => lv_ineg C.1 C.2.1 hd (k p e s m args below meth c H locs ls C hP hS hl)
theorem T_ineg {x : Int32} (hd : decode cc pc = .ok (.ineg, 1))  (k : T G l own cc nL ret R kc ks Fn Dn (pc + 1) lv (.int (-x) :: st) M r) : T G l own cc nL ret R kc ks Fn Dn pc lv (.int x :: st) M r := fun a h d => V_ineg hd  (k a h d)
def ushr (x y : Int32) : Int32 := (x.toUInt32 >>> (y.toUInt32 &&& Int32.toUInt32 31)).toInt32
def lushr (x : Int64) (y : Int32) : Int64 := (x.toUInt64 >>> (y.toInt64.toUInt64 &&& Int64.toUInt64 63)).toInt64
def lshl (x : Int64) (y : Int32) : Int64 := x <<< (y.toInt64 &&& 63)
def lshr (x : Int64) (y : Int32) : Int64 := x >>> (y.toInt64 &&& 63)
theorem V_iushr {x y : Int32} (hd : decode cc pc = .ok (.iushr, 1))  (k : V G l own cc nL ret R kc ks Fn (pc + 1) lv (.int (ushr x y) :: st) M) : V G l own cc nL ret R kc ks Fn pc lv (.int y :: .int x :: st) M := fun p e s m args below meth c H locs ls C hP hS hl => lv_iushr C.1 C.2.1 hd rfl (k p e s m args below meth c H locs ls C hP hS hl)
theorem T_iushr {x y : Int32} (hd : decode cc pc = .ok (.iushr, 1))  (k : T G l own cc nL ret R kc ks Fn Dn (pc + 1) lv (.int (ushr x y) :: st) M r) : T G l own cc nL ret R kc ks Fn Dn pc lv (.int y :: .int x :: st) M r := fun a h d => V_iushr hd  (k a h d)
theorem V_lushr {x : Int64} {y : Int32} (hd : decode cc pc = .ok (.lushr, 1))  (k : V G l own cc nL ret R kc ks Fn (pc + 1) lv (.long (lushr x y) :: st) M) : V G l own cc nL ret R kc ks Fn pc lv (.int y :: .long x :: st) M := fun p e s m args below meth c H locs ls C hP hS hl => lv_lushr C.1 C.2.1 hd rfl (k p e s m args below meth c H locs ls C hP hS hl)
theorem T_lushr {x : Int64} {y : Int32} (hd : decode cc pc = .ok (.lushr, 1))  (k : T G l own cc nL ret R kc ks Fn Dn (pc + 1) lv (.long (lushr x y) :: st) M r) : T G l own cc nL ret R kc ks Fn Dn pc lv (.int y :: .long x :: st) M r := fun a h d => V_lushr hd  (k a h d)
theorem V_lshl {x : Int64} {y : Int32} (hd : decode cc pc = .ok (.lshl, 1))  (k : V G l own cc nL ret R kc ks Fn (pc + 1) lv (.long (lshl x y) :: st) M) : V G l own cc nL ret R kc ks Fn pc lv (.int y :: .long x :: st) M := fun p e s m args below meth c H locs ls C hP hS hl => lv_lshl C.1 C.2.1 hd rfl (k p e s m args below meth c H locs ls C hP hS hl)
theorem T_lshl {x : Int64} {y : Int32} (hd : decode cc pc = .ok (.lshl, 1))  (k : T G l own cc nL ret R kc ks Fn Dn (pc + 1) lv (.long (lshl x y) :: st) M r) : T G l own cc nL ret R kc ks Fn Dn pc lv (.int y :: .long x :: st) M r := fun a h d => V_lshl hd  (k a h d)
theorem V_lshr {x : Int64} {y : Int32} (hd : decode cc pc = .ok (.lshr, 1))  (k : V G l own cc nL ret R kc ks Fn (pc + 1) lv (.long (lshr x y) :: st) M) : V G l own cc nL ret R kc ks Fn pc lv (.int y :: .long x :: st) M := fun p e s m args below meth c H locs ls C hP hS hl => lv_lshr C.1 C.2.1 hd rfl (k p e s m args below meth c H locs ls C hP hS hl)
theorem T_lshr {x : Int64} {y : Int32} (hd : decode cc pc = .ok (.lshr, 1))  (k : T G l own cc nL ret R kc ks Fn Dn (pc + 1) lv (.long (lshr x y) :: st) M r) : T G l own cc nL ret R kc ks Fn Dn pc lv (.int y :: .long x :: st) M r := fun a h d => V_lshr hd  (k a h d)
theorem V_i2l {x : Int32} (hd : decode cc pc = .ok (.i2l, 1))  (k : V G l own cc nL ret R kc ks Fn (pc + 1) lv (.long x.toInt64 :: st) M) : V G l own cc nL ret R kc ks Fn pc lv (.int x :: st) M := fun p e s m args below meth c H locs ls C hP hS hl => lv_i2l C.1 C.2.1 hd rfl (k p e s m args below meth c H locs ls C hP hS hl)
theorem T_i2l {x : Int32} (hd : decode cc pc = .ok (.i2l, 1))  (k : T G l own cc nL ret R kc ks Fn Dn (pc + 1) lv (.long x.toInt64 :: st) M r) : T G l own cc nL ret R kc ks Fn Dn pc lv (.int x :: st) M r := fun a h d => V_i2l hd  (k a h d)
theorem V_l2i {x : Int64} (hd : decode cc pc = .ok (.l2i, 1))  (k : V G l own cc nL ret R kc ks Fn (pc + 1) lv (.int x.toInt32 :: st) M) : V G l own cc nL ret R kc ks Fn pc lv (.long x :: st) M := fun p e s m args below meth c H locs ls C hP hS hl => lv_l2i C.1 C.2.1 hd rfl (k p e s m args below meth c H locs ls C hP hS hl)
theorem T_l2i {x : Int64} (hd : decode cc pc = .ok (.l2i, 1))  (k : T G l own cc nL ret R kc ks Fn Dn (pc + 1) lv (.int x.toInt32 :: st) M r) : T G l own cc nL ret R kc ks Fn Dn pc lv (.long x :: st) M r := fun a h d => V_l2i hd  (k a h d)
theorem V_i2b {x : Int32} (hd : decode cc pc = .ok (.i2b, 1))  (k : V G l own cc nL ret R kc ks Fn (pc + 1) lv (.int x.toInt8.toInt32 :: st) M) : V G l own cc nL ret R kc ks Fn pc lv (.int x :: st) M := fun p e s m args below meth c H locs ls C hP hS hl => lv_i2b C.1 C.2.1 hd rfl (k p e s m args below meth c H locs ls C hP hS hl)
theorem T_i2b {x : Int32} (hd : decode cc pc = .ok (.i2b, 1))  (k : T G l own cc nL ret R kc ks Fn Dn (pc + 1) lv (.int x.toInt8.toInt32 :: st) M r) : T G l own cc nL ret R kc ks Fn Dn pc lv (.int x :: st) M r := fun a h d => V_i2b hd  (k a h d)
theorem V_i2s {x : Int32} (hd : decode cc pc = .ok (.i2s, 1))  (k : V G l own cc nL ret R kc ks Fn (pc + 1) lv (.int x.toInt16.toInt32 :: st) M) : V G l own cc nL ret R kc ks Fn pc lv (.int x :: st) M := fun p e s m args below meth c H locs ls C hP hS hl => lv_i2s C.1 C.2.1 hd rfl (k p e s m args below meth c H locs ls C hP hS hl)
theorem T_i2s {x : Int32} (hd : decode cc pc = .ok (.i2s, 1))  (k : T G l own cc nL ret R kc ks Fn Dn (pc + 1) lv (.int x.toInt16.toInt32 :: st) M r) : T G l own cc nL ret R kc ks Fn Dn pc lv (.int x :: st) M r := fun a h d => V_i2s hd  (k a h d)
theorem V_lcmp {x y : Int64} (hd : decode cc pc = .ok (.lcmp, 1))  (k : V G l own cc nL ret R kc ks Fn (pc + 1) lv (.int (lg_cmp x y) :: st) M) : V G l own cc nL ret R kc ks Fn pc lv (.long y :: .long x :: st) M := fun p e s m args below meth c H locs ls C hP hS hl => W.lcmp C.1 C.2.1 hd (k p e s m args below meth c H locs ls C hP hS hl)
theorem T_lcmp {x y : Int64} (hd : decode cc pc = .ok (.lcmp, 1))  (k : T G l own cc nL ret R kc ks Fn Dn (pc + 1) lv (.int (lg_cmp x y) :: st) M r) : T G l own cc nL ret R kc ks Fn Dn pc lv (.long y :: .long x :: st) M r := fun a h d => V_lcmp hd  (k a h d)
theorem V_dup {va : Value} (hd : decode cc pc = .ok (.dup, 1)) (hc : va.category = 1) (k : V G l own cc nL ret R kc ks Fn (pc + 1) lv (va :: va :: st) M) : V G l own cc nL ret R kc ks Fn pc lv (va :: st) M := fun p e s m args below meth c H locs ls C hP hS hl => lv_dup C.1 C.2.1 hd hc (k p e s m args below meth c H locs ls C hP hS hl)
theorem T_dup {va : Value} (hd : decode cc pc = .ok (.dup, 1)) (hc : va.category = 1) (k : T G l own cc nL ret R kc ks Fn Dn (pc + 1) lv (va :: va :: st) M r) : T G l own cc nL ret R kc ks Fn Dn pc lv (va :: st) M r := fun a h d => V_dup hd hc (k a h d)
theorem V_dup2_11 {va vb : Value} (hd : decode cc pc = .ok (.dup2, 1)) (hc : va.category = 1) (hc2 : vb.category = 1) (k : V G l own cc nL ret R kc ks Fn (pc + 1) lv (va :: vb :: va :: vb :: st) M) : V G l own cc nL ret R kc ks Fn pc lv (va :: vb :: st) M := fun p e s m args below meth c H locs ls C hP hS hl => lv_dup2_11 C.1 C.2.1 hd hc hc2 (k p e s m args below meth c H locs ls C hP hS hl)
theorem T_dup2_11 {va vb : Value} (hd : decode cc pc = .ok (.dup2, 1)) (hc : va.category = 1) (hc2 : vb.category = 1) (k : T G l own cc nL ret R kc ks Fn Dn (pc + 1) lv (va :: vb :: va :: vb :: st) M r) : T G l own cc nL ret R kc ks Fn Dn pc lv (va :: vb :: st) M r := fun a h d => V_dup2_11 hd hc hc2 (k a h d)
theorem V_goto {off : Int} {tgt : Nat} (hd : decode cc pc = .ok (.goto off, 3)) (ht : (pc : Int) + off = (tgt : Int)) (k : V G l own cc nL ret R kc ks Fn tgt lv (st) M) : V G l own cc nL ret R kc ks Fn pc lv (st) M := fun p e s m args below meth c H locs ls C hP hS hl => lv_goto C.1 C.2.1 hd ht (k p e s m args below meth c H locs ls C hP hS hl)
theorem T_goto {off : Int} {tgt : Nat} (hd : decode cc pc = .ok (.goto off, 3)) (ht : (pc : Int) + off = (tgt : Int)) (k : T G l own cc nL ret R kc ks Fn Dn tgt lv (st) M r) : T G l own cc nL ret R kc ks Fn Dn pc lv (st) M r := fun a h d => V_goto hd ht (k a h d)
theorem V_istore_n {kk : Fin 4} {i : Nat} {x : Int32} {lv' : List (Nat × Value)} (hd : decode cc pc = .ok (.istore_n kk, 1)) (hi : (kk : Nat) = i) (hn : i < nL) (hf : (i, .int x) :: lv.filter (fun q => !(q.1 == i) && !(q.1 + 1 == i && q.2.category == 2)) = lv') (k : V G l own cc nL ret R kc ks Fn (pc + 1) lv' st M) : V G l own cc nL ret R kc ks Fn pc lv (.int x :: st) M := fun p e s m args below meth c H locs ls C hP hS hl => lv_istore_n C.1 C.2.1 hd hi hl hn hf (fun ls' hl' => k p e s m args below meth c H locs ls' C hP hS hl')
theorem T_istore_n {kk : Fin 4} {i : Nat} {x : Int32} {lv' : List (Nat × Value)} (hd : decode cc pc = .ok (.istore_n kk, 1)) (hi : (kk : Nat) = i) (hn : i < nL) (hf : (i, .int x) :: lv.filter (fun q => !(q.1 == i) && !(q.1 + 1 == i && q.2.category == 2)) = lv') (k : T G l own cc nL ret R kc ks Fn Dn (pc + 1) lv' st M r) : T G l own cc nL ret R kc ks Fn Dn pc lv (.int x :: st) M r := fun a h d => V_istore_n hd hi hn hf (k a h d)
theorem T_istore_n_G {kk : Fin 4} {i : Nat} {x : Int32} {K : Int32 → Option α} {lv' : Int32 → List (Nat × Value)} (hd : decode cc pc = .ok (.istore_n kk, 1)) (hi : (kk : Nat) = i) (hn : i < nL) (hf : ∀ z, (i, .int z) :: lv.filter (fun q => !(q.1 == i) && !(q.1 + 1 == i && q.2.category == 2)) = lv' z) (k : ∀ z, T G l own cc nL ret R kc ks Fn Dn (pc + 1) (lv' z) st M (K z)) : T G l own cc nL ret R kc ks Fn Dn pc lv (.int x :: st) M (lt x K) := fun a h d => V_istore_n hd hi hn (hf x) (k x a h d)
theorem V_istore  {i : Nat} {x : Int32} {lv' : List (Nat × Value)} (hd : decode cc pc = .ok (.istore i, 2))  (hn : i < nL) (hf : (i, .int x) :: lv.filter (fun q => !(q.1 == i) && !(q.1 + 1 == i && q.2.category == 2)) = lv') (k : V G l own cc nL ret R kc ks Fn (pc + 2) lv' st M) : V G l own cc nL ret R kc ks Fn pc lv (.int x :: st) M := fun p e s m args below meth c H locs ls C hP hS hl => lv_istore C.1 C.2.1 hd  hl hn hf (fun ls' hl' => k p e s m args below meth c H locs ls' C hP hS hl')
theorem T_istore  {i : Nat} {x : Int32} {lv' : List (Nat × Value)} (hd : decode cc pc = .ok (.istore i, 2))  (hn : i < nL) (hf : (i, .int x) :: lv.filter (fun q => !(q.1 == i) && !(q.1 + 1 == i && q.2.category == 2)) = lv') (k : T G l own cc nL ret R kc ks Fn Dn (pc + 2) lv' st M r) : T G l own cc nL ret R kc ks Fn Dn pc lv (.int x :: st) M r := fun a h d => V_istore hd  hn hf (k a h d)
theorem T_istore_G  {i : Nat} {x : Int32} {K : Int32 → Option α} {lv' : Int32 → List (Nat × Value)} (hd : decode cc pc = .ok (.istore i, 2))  (hn : i < nL) (hf : ∀ z, (i, .int z) :: lv.filter (fun q => !(q.1 == i) && !(q.1 + 1 == i && q.2.category == 2)) = lv' z) (k : ∀ z, T G l own cc nL ret R kc ks Fn Dn (pc + 2) (lv' z) st M (K z)) : T G l own cc nL ret R kc ks Fn Dn pc lv (.int x :: st) M (lt x K) := fun a h d => V_istore hd  hn (hf x) (k x a h d)
theorem V_lstore_n {kk : Fin 4} {i : Nat} {x : Int64} {lv' : List (Nat × Value)} (hd : decode cc pc = .ok (.lstore_n kk, 1)) (hi : (kk : Nat) = i) (hn : i + 1 < nL) (hf : (i, .long x) :: lv.filter (fun q => !(q.1 == i) && (!(q.1 == i + 1) && !(q.1 + 1 == i && q.2.category == 2))) = lv') (k : V G l own cc nL ret R kc ks Fn (pc + 1) lv' st M) : V G l own cc nL ret R kc ks Fn pc lv (.long x :: st) M := fun p e s m args below meth c H locs ls C hP hS hl => lv_lstore_n C.1 C.2.1 hd hi hl hn hf (fun ls' hl' => k p e s m args below meth c H locs ls' C hP hS hl')
theorem T_lstore_n {kk : Fin 4} {i : Nat} {x : Int64} {lv' : List (Nat × Value)} (hd : decode cc pc = .ok (.lstore_n kk, 1)) (hi : (kk : Nat) = i) (hn : i + 1 < nL) (hf : (i, .long x) :: lv.filter (fun q => !(q.1 == i) && (!(q.1 == i + 1) && !(q.1 + 1 == i && q.2.category == 2))) = lv') (k : T G l own cc nL ret R kc ks Fn Dn (pc + 1) lv' st M r) : T G l own cc nL ret R kc ks Fn Dn pc lv (.long x :: st) M r := fun a h d => V_lstore_n hd hi hn hf (k a h d)
theorem T_lstore_n_G {kk : Fin 4} {i : Nat} {x : Int64} {K : Int64 → Option α} {lv' : Int64 → List (Nat × Value)} (hd : decode cc pc = .ok (.lstore_n kk, 1)) (hi : (kk : Nat) = i) (hn : i + 1 < nL) (hf : ∀ z, (i, .long z) :: lv.filter (fun q => !(q.1 == i) && (!(q.1 == i + 1) && !(q.1 + 1 == i && q.2.category == 2))) = lv' z) (k : ∀ z, T G l own cc nL ret R kc ks Fn Dn (pc + 1) (lv' z) st M (K z)) : T G l own cc nL ret R kc ks Fn Dn pc lv (.long x :: st) M (lt x K) := fun a h d => V_lstore_n hd hi hn (hf x) (k x a h d)
theorem V_lstore  {i : Nat} {x : Int64} {lv' : List (Nat × Value)} (hd : decode cc pc = .ok (.lstore i, 2))  (hn : i + 1 < nL) (hf : (i, .long x) :: lv.filter (fun q => !(q.1 == i) && (!(q.1 == i + 1) && !(q.1 + 1 == i && q.2.category == 2))) = lv') (k : V G l own cc nL ret R kc ks Fn (pc + 2) lv' st M) : V G l own cc nL ret R kc ks Fn pc lv (.long x :: st) M := fun p e s m args below meth c H locs ls C hP hS hl => lv_lstore C.1 C.2.1 hd  hl hn hf (fun ls' hl' => k p e s m args below meth c H locs ls' C hP hS hl')
theorem T_lstore  {i : Nat} {x : Int64} {lv' : List (Nat × Value)} (hd : decode cc pc = .ok (.lstore i, 2))  (hn : i + 1 < nL) (hf : (i, .long x) :: lv.filter (fun q => !(q.1 == i) && (!(q.1 == i + 1) && !(q.1 + 1 == i && q.2.category == 2))) = lv') (k : T G l own cc nL ret R kc ks Fn Dn (pc + 2) lv' st M r) : T G l own cc nL ret R kc ks Fn Dn pc lv (.long x :: st) M r := fun a h d => V_lstore hd  hn hf (k a h d)
theorem T_lstore_G  {i : Nat} {x : Int64} {K : Int64 → Option α} {lv' : Int64 → List (Nat × Value)} (hd : decode cc pc = .ok (.lstore i, 2))  (hn : i + 1 < nL) (hf : ∀ z, (i, .long z) :: lv.filter (fun q => !(q.1 == i) && (!(q.1 == i + 1) && !(q.1 + 1 == i && q.2.category == 2))) = lv' z) (k : ∀ z, T G l own cc nL ret R kc ks Fn Dn (pc + 2) (lv' z) st M (K z)) : T G l own cc nL ret R kc ks Fn Dn pc lv (.long x :: st) M (lt x K) := fun a h d => V_lstore hd  hn (hf x) (k x a h d)
theorem V_astore_n {kk : Fin 4} {i : Nat} {x : Nat} {lv' : List (Nat × Value)} (hd : decode cc pc = .ok (.astore_n kk, 1)) (hi : (kk : Nat) = i) (hn : i < nL) (hf : (i, .ref x) :: lv.filter (fun q => !(q.1 == i) && !(q.1 + 1 == i && q.2.category == 2)) = lv') (k : V G l own cc nL ret R kc ks Fn (pc + 1) lv' st M) : V G l own cc nL ret R kc ks Fn pc lv (.ref x :: st) M := fun p e s m args below meth c H locs ls C hP hS hl => lv_astore_n C.1 C.2.1 hd hi hl hn hf (fun ls' hl' => k p e s m args below meth c H locs ls' C hP hS hl')
theorem T_astore_n {kk : Fin 4} {i : Nat} {x : Nat} {lv' : List (Nat × Value)} (hd : decode cc pc = .ok (.astore_n kk, 1)) (hi : (kk : Nat) = i) (hn : i < nL) (hf : (i, .ref x) :: lv.filter (fun q => !(q.1 == i) && !(q.1 + 1 == i && q.2.category == 2)) = lv') (k : T G l own cc nL ret R kc ks Fn Dn (pc + 1) lv' st M r) : T G l own cc nL ret R kc ks Fn Dn pc lv (.ref x :: st) M r := fun a h d => V_astore_n hd hi hn hf (k a h d)
theorem T_astore_n_G {kk : Fin 4} {i : Nat} {x ci : Nat} {K : Nat → Option α} {lv' : Nat → List (Nat × Value)} (hs : shp x = ci) (hd : decode cc pc = .ok (.astore_n kk, 1)) (hi : (kk : Nat) = i) (hn : i < nL) (hf : ∀ z, (i, .ref (adr G z)) :: lv.filter (fun q => !(q.1 == i) && !(q.1 + 1 == i && q.2.category == 2)) = lv' z) (k : ∀ z, shp z = ci → T G l own cc nL ret R kc ks Fn Dn (pc + 1) (lv' z) st M (K z)) : T G l own cc nL ret R kc ks Fn Dn pc lv (.ref (adr G x) :: st) M (lt x K) := fun a h d => V_astore_n hd hi hn (hf x) (k x hs a h d)
theorem V_astore  {i : Nat} {x : Nat} {lv' : List (Nat × Value)} (hd : decode cc pc = .ok (.astore i, 2))  (hn : i < nL) (hf : (i, .ref x) :: lv.filter (fun q => !(q.1 == i) && !(q.1 + 1 == i && q.2.category == 2)) = lv') (k : V G l own cc nL ret R kc ks Fn (pc + 2) lv' st M) : V G l own cc nL ret R kc ks Fn pc lv (.ref x :: st) M := fun p e s m args below meth c H locs ls C hP hS hl => lv_astore C.1 C.2.1 hd  hl hn hf (fun ls' hl' => k p e s m args below meth c H locs ls' C hP hS hl')
theorem T_astore  {i : Nat} {x : Nat} {lv' : List (Nat × Value)} (hd : decode cc pc = .ok (.astore i, 2))  (hn : i < nL) (hf : (i, .ref x) :: lv.filter (fun q => !(q.1 == i) && !(q.1 + 1 == i && q.2.category == 2)) = lv') (k : T G l own cc nL ret R kc ks Fn Dn (pc + 2) lv' st M r) : T G l own cc nL ret R kc ks Fn Dn pc lv (.ref x :: st) M r := fun a h d => V_astore hd  hn hf (k a h d)
theorem T_astore_G  {i : Nat} {x ci : Nat} {K : Nat → Option α} {lv' : Nat → List (Nat × Value)} (hs : shp x = ci) (hd : decode cc pc = .ok (.astore i, 2))  (hn : i < nL) (hf : ∀ z, (i, .ref (adr G z)) :: lv.filter (fun q => !(q.1 == i) && !(q.1 + 1 == i && q.2.category == 2)) = lv' z) (k : ∀ z, shp z = ci → T G l own cc nL ret R kc ks Fn Dn (pc + 2) (lv' z) st M (K z)) : T G l own cc nL ret R kc ks Fn Dn pc lv (.ref (adr G x) :: st) M (lt x K) := fun a h d => V_astore hd  hn (hf x) (k x hs a h d)
theorem T_iinc_G {i q : Nat} {n : Int} {x y : Int32} {K : Int32 → Option α} {lv' : Int32 → List (Nat × Value)} (hd : decode cc pc = .ok (.iinc i n, 3)) (hq : lv[q]? = some (i, .int x)) (hv : x + Int32.ofInt n = y) (hn : i < nL) (hf : ∀ z, (i, .int z) :: lv.filter (fun q => !(q.1 == i) && !(q.1 + 1 == i && q.2.category == 2)) = lv' z) (k : ∀ z, T G l own cc nL ret R kc ks Fn Dn (pc + 3) (lv' z) st M (K z)) : T G l own cc nL ret R kc ks Fn Dn pc lv st M (lt y K) := fun a h d p e s m args below meth c H locs ls C hP hS hl  => lv_iinc C.1 C.2.1 hd hl hq hv hn (hf y) (fun ls' hl' => k y a h d p e s m args below meth c H locs ls' C hP hS hl')
theorem T_if_eq {x : Int32} {off : Int} {tgt : Nat} {E1 E2 : Option α} (hd : decode cc pc = .ok (.ifCond .eq off, 3)) (ht : (pc : Int) + off = (tgt : Int)) (kt : x = 0 → T G l own cc nL ret R kc ks Fn Dn tgt lv st M E1) (kf : ¬ x = 0 → T G l own cc nL ret R kc ks Fn Dn (pc + 3) lv st M E2) : T G l own cc nL ret R kc ks Fn Dn pc lv (.int x :: st) M (if x = 0 then E1 else E2) := fun a h d p e s m args below meth c H locs ls C hP hS hl  => lv_if_eq C.1 C.2.1 hd ht (fun z => kt z a (by rw [if_pos z] at h; exact h) d p e s m args below meth c H locs ls C hP hS hl) (fun z => kf z a (by rw [if_neg z] at h; exact h) d p e s m args below meth c H locs ls C hP hS hl)
theorem T_if_ne {x : Int32} {off : Int} {tgt : Nat} {E1 E2 : Option α} (hd : decode cc pc = .ok (.ifCond .ne off, 3)) (ht : (pc : Int) + off = (tgt : Int)) (kf : x = 0 → T G l own cc nL ret R kc ks Fn Dn (pc + 3) lv st M E1) (kt : ¬ x = 0 → T G l own cc nL ret R kc ks Fn Dn tgt lv st M E2) : T G l own cc nL ret R kc ks Fn Dn pc lv (.int x :: st) M (if x = 0 then E1 else E2) := fun a h d p e s m args below meth c H locs ls C hP hS hl  => lv_if_ne C.1 C.2.1 hd ht (fun z => kt z a (by rw [if_neg z] at h; exact h) d p e s m args below meth c H locs ls C hP hS hl) (fun z => kf z a (by rw [if_pos z] at h; exact h) d p e s m args below meth c H locs ls C hP hS hl)
theorem T_if_lt {x : Int32} {off : Int} {tgt : Nat} {E1 E2 : Option α} (hd : decode cc pc = .ok (.ifCond .lt off, 3)) (ht : (pc : Int) + off = (tgt : Int)) (kt : x < 0 → T G l own cc nL ret R kc ks Fn Dn tgt lv st M E1) (kf : ¬ x < 0 → T G l own cc nL ret R kc ks Fn Dn (pc + 3) lv st M E2) : T G l own cc nL ret R kc ks Fn Dn pc lv (.int x :: st) M (if x < 0 then E1 else E2) := fun a h d p e s m args below meth c H locs ls C hP hS hl  => lv_if_lt C.1 C.2.1 hd ht (fun z => kt z a (by rw [if_pos z] at h; exact h) d p e s m args below meth c H locs ls C hP hS hl) (fun z => kf z a (by rw [if_neg z] at h; exact h) d p e s m args below meth c H locs ls C hP hS hl)
theorem T_if_ge {x : Int32} {off : Int} {tgt : Nat} {E1 E2 : Option α} (hd : decode cc pc = .ok (.ifCond .ge off, 3)) (ht : (pc : Int) + off = (tgt : Int)) (kt : 0 ≤ x → T G l own cc nL ret R kc ks Fn Dn tgt lv st M E1) (kf : ¬ 0 ≤ x → T G l own cc nL ret R kc ks Fn Dn (pc + 3) lv st M E2) : T G l own cc nL ret R kc ks Fn Dn pc lv (.int x :: st) M (if 0 ≤ x then E1 else E2) := fun a h d p e s m args below meth c H locs ls C hP hS hl  => lv_if_ge C.1 C.2.1 hd ht (fun z => kt z a (by rw [if_pos z] at h; exact h) d p e s m args below meth c H locs ls C hP hS hl) (fun z => kf z a (by rw [if_neg z] at h; exact h) d p e s m args below meth c H locs ls C hP hS hl)
theorem T_if_gt {x : Int32} {off : Int} {tgt : Nat} {E1 E2 : Option α} (hd : decode cc pc = .ok (.ifCond .gt off, 3)) (ht : (pc : Int) + off = (tgt : Int)) (kt : 0 < x → T G l own cc nL ret R kc ks Fn Dn tgt lv st M E1) (kf : ¬ 0 < x → T G l own cc nL ret R kc ks Fn Dn (pc + 3) lv st M E2) : T G l own cc nL ret R kc ks Fn Dn pc lv (.int x :: st) M (if 0 < x then E1 else E2) := fun a h d p e s m args below meth c H locs ls C hP hS hl  => lv_if_gt C.1 C.2.1 hd ht (fun z => kt z a (by rw [if_pos z] at h; exact h) d p e s m args below meth c H locs ls C hP hS hl) (fun z => kf z a (by rw [if_neg z] at h; exact h) d p e s m args below meth c H locs ls C hP hS hl)
theorem T_if_le {x : Int32} {off : Int} {tgt : Nat} {E1 E2 : Option α} (hd : decode cc pc = .ok (.ifCond .le off, 3)) (ht : (pc : Int) + off = (tgt : Int)) (kt : x ≤ 0 → T G l own cc nL ret R kc ks Fn Dn tgt lv st M E1) (kf : ¬ x ≤ 0 → T G l own cc nL ret R kc ks Fn Dn (pc + 3) lv st M E2) : T G l own cc nL ret R kc ks Fn Dn pc lv (.int x :: st) M (if x ≤ 0 then E1 else E2) := fun a h d p e s m args below meth c H locs ls C hP hS hl  => lv_if_le C.1 C.2.1 hd ht (fun z => kt z a (by rw [if_pos z] at h; exact h) d p e s m args below meth c H locs ls C hP hS hl) (fun z => kf z a (by rw [if_neg z] at h; exact h) d p e s m args below meth c H locs ls C hP hS hl)
theorem T_icmp_eq {x y : Int32} {off : Int} {tgt : Nat} {E1 E2 : Option α} (hd : decode cc pc = .ok (.if_icmp .eq off, 3)) (ht : (pc : Int) + off = (tgt : Int)) (kt : x = y → T G l own cc nL ret R kc ks Fn Dn tgt lv st M E1) (kf : ¬ x = y → T G l own cc nL ret R kc ks Fn Dn (pc + 3) lv st M E2) : T G l own cc nL ret R kc ks Fn Dn pc lv (.int y :: .int x :: st) M (if x = y then E1 else E2) := fun a h d p e s m args below meth c H locs ls C hP hS hl  => lv_icmp_eq C.1 C.2.1 hd ht (fun z => kt z a (by rw [if_pos z] at h; exact h) d p e s m args below meth c H locs ls C hP hS hl) (fun z => kf z a (by rw [if_neg z] at h; exact h) d p e s m args below meth c H locs ls C hP hS hl)
theorem T_icmp_ne {x y : Int32} {off : Int} {tgt : Nat} {E1 E2 : Option α} (hd : decode cc pc = .ok (.if_icmp .ne off, 3)) (ht : (pc : Int) + off = (tgt : Int)) (kf : x = y → T G l own cc nL ret R kc ks Fn Dn (pc + 3) lv st M E1) (kt : ¬ x = y → T G l own cc nL ret R kc ks Fn Dn tgt lv st M E2) : T G l own cc nL ret R kc ks Fn Dn pc lv (.int y :: .int x :: st) M (if x = y then E1 else E2) := fun a h d p e s m args below meth c H locs ls C hP hS hl  => lv_icmp_ne C.1 C.2.1 hd ht (fun z => kt z a (by rw [if_neg z] at h; exact h) d p e s m args below meth c H locs ls C hP hS hl) (fun z => kf z a (by rw [if_pos z] at h; exact h) d p e s m args below meth c H locs ls C hP hS hl)
theorem T_icmp_lt {x y : Int32} {off : Int} {tgt : Nat} {E1 E2 : Option α} (hd : decode cc pc = .ok (.if_icmp .lt off, 3)) (ht : (pc : Int) + off = (tgt : Int)) (kt : x < y → T G l own cc nL ret R kc ks Fn Dn tgt lv st M E1) (kf : ¬ x < y → T G l own cc nL ret R kc ks Fn Dn (pc + 3) lv st M E2) : T G l own cc nL ret R kc ks Fn Dn pc lv (.int y :: .int x :: st) M (if x < y then E1 else E2) := fun a h d p e s m args below meth c H locs ls C hP hS hl  => lv_icmp_lt C.1 C.2.1 hd ht (fun z => kt z a (by rw [if_pos z] at h; exact h) d p e s m args below meth c H locs ls C hP hS hl) (fun z => kf z a (by rw [if_neg z] at h; exact h) d p e s m args below meth c H locs ls C hP hS hl)
theorem T_icmp_ge {x y : Int32} {off : Int} {tgt : Nat} {E1 E2 : Option α} (hd : decode cc pc = .ok (.if_icmp .ge off, 3)) (ht : (pc : Int) + off = (tgt : Int)) (kt : y ≤ x → T G l own cc nL ret R kc ks Fn Dn tgt lv st M E1) (kf : ¬ y ≤ x → T G l own cc nL ret R kc ks Fn Dn (pc + 3) lv st M E2) : T G l own cc nL ret R kc ks Fn Dn pc lv (.int y :: .int x :: st) M (if y ≤ x then E1 else E2) := fun a h d p e s m args below meth c H locs ls C hP hS hl  => lv_icmp_ge C.1 C.2.1 hd ht (fun z => kt z a (by rw [if_pos z] at h; exact h) d p e s m args below meth c H locs ls C hP hS hl) (fun z => kf z a (by rw [if_neg z] at h; exact h) d p e s m args below meth c H locs ls C hP hS hl)
theorem T_icmp_gt {x y : Int32} {off : Int} {tgt : Nat} {E1 E2 : Option α} (hd : decode cc pc = .ok (.if_icmp .gt off, 3)) (ht : (pc : Int) + off = (tgt : Int)) (kt : y < x → T G l own cc nL ret R kc ks Fn Dn tgt lv st M E1) (kf : ¬ y < x → T G l own cc nL ret R kc ks Fn Dn (pc + 3) lv st M E2) : T G l own cc nL ret R kc ks Fn Dn pc lv (.int y :: .int x :: st) M (if y < x then E1 else E2) := fun a h d p e s m args below meth c H locs ls C hP hS hl  => lv_icmp_gt C.1 C.2.1 hd ht (fun z => kt z a (by rw [if_pos z] at h; exact h) d p e s m args below meth c H locs ls C hP hS hl) (fun z => kf z a (by rw [if_neg z] at h; exact h) d p e s m args below meth c H locs ls C hP hS hl)
theorem T_icmp_le {x y : Int32} {off : Int} {tgt : Nat} {E1 E2 : Option α} (hd : decode cc pc = .ok (.if_icmp .le off, 3)) (ht : (pc : Int) + off = (tgt : Int)) (kt : x ≤ y → T G l own cc nL ret R kc ks Fn Dn tgt lv st M E1) (kf : ¬ x ≤ y → T G l own cc nL ret R kc ks Fn Dn (pc + 3) lv st M E2) : T G l own cc nL ret R kc ks Fn Dn pc lv (.int y :: .int x :: st) M (if x ≤ y then E1 else E2) := fun a h d p e s m args below meth c H locs ls C hP hS hl  => lv_icmp_le C.1 C.2.1 hd ht (fun z => kt z a (by rw [if_pos z] at h; exact h) d p e s m args below meth c H locs ls C hP hS hl) (fun z => kf z a (by rw [if_neg z] at h; exact h) d p e s m args below meth c H locs ls C hP hS hl)
theorem T_split {c : Prop} {hc : Decidable c} {E1 E2 : Option α} (kt : c → T G l own cc nL ret R kc ks Fn Dn pc lv st M E1) (kf : ¬ c → T G l own cc nL ret R kc ks Fn Dn pc lv st M E2) : T G l own cc nL ret R kc ks Fn Dn pc lv st M (if c then E1 else E2) := fun a h d => by
  by_cases z : c
  · rw [if_pos z] at h; exact kt z a h d
  · rw [if_neg z] at h; exact kf z a h d
theorem T_tswIn {dflt lo hi : Int} {offs : Array Int} {len : Nat} {x : Int32} {off : Int} {tgt : Nat} (hd : decode cc pc = .ok (.tableswitch dflt lo hi offs, len)) (h1 : ¬ x.toInt < lo) (h2 : ¬ hi < x.toInt) (ho : offs[(x.toInt - lo).toNat]? = some off) (ht : (pc : Int) + off = (tgt : Int)) (k : T G l own cc nL ret R kc ks Fn Dn tgt lv st M r) : T G l own cc nL ret R kc ks Fn Dn pc lv (.int x :: st) M r := fun a h d p e s m args below meth c H locs ls C hP hS hl  => lv_tableIn C.1 C.2.1 hd h1 h2 ho ht (k a h d p e s m args below meth c H locs ls C hP hS hl)
theorem T_tswOut {dflt lo hi : Int} {offs : Array Int} {len : Nat} {x : Int32} {tgt : Nat} (hd : decode cc pc = .ok (.tableswitch dflt lo hi offs, len)) (hx : x.toInt < lo ∨ hi < x.toInt) (ht : (pc : Int) + dflt = (tgt : Int)) (k : T G l own cc nL ret R kc ks Fn Dn tgt lv st M r) : T G l own cc nL ret R kc ks Fn Dn pc lv (.int x :: st) M r := fun a h d p e s m args below meth c H locs ls C hP hS hl  => lv_tableOut C.1 C.2.1 hd hx ht (k a h d p e s m args below meth c H locs ls C hP hS hl)
theorem T_idiv {x y : Int32} (hd : decode cc pc = .ok (.idiv, 1)) (k : T G l own cc nL ret R kc ks Fn Dn (pc + 1) lv (.int (x / y) :: st) M r) : T G l own cc nL ret R kc ks Fn Dn pc lv (.int y :: .int x :: st) M (gz y r) := fun a h d p e s m args below meth c H locs ls C hP hS hl  => by
  by_cases z : y = 0
  · rw [gz, if_pos z] at h; cases h
  · rw [gz, if_neg z] at h; exact lv_idiv C.1 C.2.1 hd z (k a h d p e s m args below meth c H locs ls C hP hS hl)
theorem T_irem {x y : Int32} (hd : decode cc pc = .ok (.irem, 1)) (k : T G l own cc nL ret R kc ks Fn Dn (pc + 1) lv (.int (x - x / y * y) :: st) M r) : T G l own cc nL ret R kc ks Fn Dn pc lv (.int y :: .int x :: st) M (gz y r) := fun a h d p e s m args below meth c H locs ls C hP hS hl  => by
  by_cases z : y = 0
  · rw [gz, if_pos z] at h; cases h
  · rw [gz, if_neg z] at h; exact lv_irem C.1 C.2.1 hd z (k a h d p e s m args below meth c H locs ls C hP hS hl)
theorem T_ldiv {x y : Int64} (hd : decode cc pc = .ok (.ldiv, 1)) (k : T G l own cc nL ret R kc ks Fn Dn (pc + 1) lv (.long (x / y) :: st) M r) : T G l own cc nL ret R kc ks Fn Dn pc lv (.long y :: .long x :: st) M (gzl y r) := fun a h d p e s m args below meth c H locs ls C hP hS hl  => by
  by_cases z : y = 0
  · rw [gzl, if_pos z] at h; cases h
  · rw [gzl, if_neg z] at h; exact lv_ldiv C.1 C.2.1 hd z (k a h d p e s m args below meth c H locs ls C hP hS hl)
theorem T_lrem {x y : Int64} (hd : decode cc pc = .ok (.lrem, 1)) (k : T G l own cc nL ret R kc ks Fn Dn (pc + 1) lv (.long (x - x / y * y) :: st) M r) : T G l own cc nL ret R kc ks Fn Dn pc lv (.long y :: .long x :: st) M (gzl y r) := fun a h d p e s m args below meth c H locs ls C hP hS hl  => by
  by_cases z : y = 0
  · rw [gzl, if_pos z] at h; cases h
  · rw [gzl, if_neg z] at h; exact lv_lrem C.1 C.2.1 hd z (k a h d p e s m args below meth c H locs ls C hP hS hl)
/-- a class's field number j of class ci, as the constant pool of own has it at idx -/
def FR (own : String) (idx ci j : Nat) : Prop := ∃ q : vw_C, vwCl[ci]? = some q ∧ j < q.2.2 ∧ ci < 9 ∧ (Cond.fieldLink own idx (q.2.1 j).1 (q.2.1 j).2.1 (q.2.1 j).2.2.1 ∈ lwT ∨ ∃ h, Cond.fieldLinkNest own idx (q.2.1 j).1 (q.2.1 j).2.1 (q.2.1 j).2.2.1 h ∈ nstT)
def PT (ci j : Nat) (ty : FieldType) : Prop := ∀ q : vw_C, vwCl[ci]? = some q → parseFieldDescriptor (q.2.1 j).2.2.1 = some ty ∧ (q.2.1 j).2.2.2 = false
def CF (ci : Nat) : Prop := ∀ q : vw_C, vwCl[ci]? = some q → (∀ w ∈ u_ws q.1 q.2.1 q.2.2, w ∈ lwT) ∧ ∃ ty : Nat → FieldType, (∀ k, k < q.2.2 → parseFieldDescriptor (q.2.1 k).2.2.1 = some (ty k)) ∧ ∀ a, a < q.2.2 → ∀ b, b < q.2.2 → a ≠ b → (q.2.1 a).2.1 ≠ (q.2.1 b).2.1
theorem V_get {o ci j idx : Nat} {v : Value} (hcf : CF ci) (hF : FR own idx ci j) (hd : decode cc pc = .ok (.getfield idx, 3)) (ho : shp o = ci) (hv : (flds G M ci o)[j]? = some v) (k : V G l own cc nL ret R kc ks Fn (pc + 3) lv (v :: st) M) : V G l own cc nL ret R kc ks Fn pc lv (.ref (adr G o) :: st) M := by
  intro p e s m args below meth c H locs ls C hP hS hl
  obtain ⟨q, hq, hj, h9, hlk⟩ := hF
  obtain ⟨hin, -⟩ := hcf q hq
  have hoN : o < NC := shp_lt (by omega)
  have he : (WL G M)[o]? = some (adr G o, .inr (ci, flds G M ci o)) := by rw [WL_at hoN, cel_obj ho h9]
  have kk := k p e s m args below meth c H locs ls C hP hS hl
  obtain ⟨C1, C2, C3, C4, C5, C6, C7, C8⟩ := C
  rcases hlk with hlk | ⟨host, hlk⟩
  · exact va_get (D := G.1) C1 C2 C7 hin C6 C8.2.1 hP o he hq j hj (C7 _ hlk) (fun _ h => h) hv hd kk
  · exact va_getN (D := G.1) C1 C2 C7 hin C6 C8.2.1 hP o he hq j hj (va_Nw.use rfl (C8.2.2.1 _ hlk)) (fun _ h => h) hv hd kk
theorem T_getI {o ci j idx : Nat} (hcf : CF ci) (hF : FR own idx ci j) (hd : decode cc pc = .ok (.getfield idx, 3)) (ho : shp o = ci) (hj : (fk ci)[j]? = some 0) (k : T G l own cc nL ret R kc ks Fn Dn (pc + 3) lv (.int (M.1 o j) :: st) M r) : T G l own cc nL ret R kc ks Fn Dn pc lv (.ref (adr G o) :: st) M r := fun a h d => V_get hcf hF hd ho (flds_at hj) (k a h d)
theorem T_getL {o ci j idx : Nat} (hcf : CF ci) (hF : FR own idx ci j) (hd : decode cc pc = .ok (.getfield idx, 3)) (ho : shp o = ci) (hj : (fk ci)[j]? = some 1) (k : T G l own cc nL ret R kc ks Fn Dn (pc + 3) lv (.long (M.2 o j) :: st) M r) : T G l own cc nL ret R kc ks Fn Dn pc lv (.ref (adr G o) :: st) M r := fun a h d => V_get hcf hF hd ho (flds_at hj) (k a h d)
theorem T_getR {o ci j idx : Nat} (hcf : CF ci) (hF : FR own idx ci j) (hd : decode cc pc = .ok (.getfield idx, 3)) (ho : shp o = ci) (hj : (fk ci)[j]? = some 2) (k : T G l own cc nL ret R kc ks Fn Dn (pc + 3) lv (.ref (adr G (rf o j)) :: st) M r) : T G l own cc nL ret R kc ks Fn Dn pc lv (.ref (adr G o) :: st) M r := fun a h d => V_get hcf hF hd ho (flds_at hj) (k a h d)
theorem V_put {o ci j idx : Nat} {v : Value} {ty : FieldType} {M' : Mem} (hcf : CF ci) (hF : FR own idx ci j) (hpt : PT ci j ty) (hd : decode cc pc = .ok (.putfield idx, 3)) (ho : shp o = ci) (hn : narrow ty v = v) (hfit : fits ty v = true) (hlen : j < (flds G M ci o).length) (hs : (flds G M ci o).set j v = flds G M' ci o) (hot : ∀ k, k ≠ o → cel G M' k = cel G M k) (k : V G l own cc nL ret R kc ks Fn (pc + 3) lv st M') : V G l own cc nL ret R kc ks Fn pc lv (v :: .ref (adr G o) :: st) M := by
  intro p e s m args below meth c H locs ls C hP hS hl
  obtain ⟨q, hq, hj, h9, hlk⟩ := hF
  obtain ⟨hin, ty0, hty, hnm⟩ := hcf q hq
  obtain ⟨hp1, hp2⟩ := hpt q hq
  have hoN : o < NC := shp_lt (by omega)
  have he : (WL G M)[o]? = some (adr G o, .inr (ci, flds G M ci o)) := by rw [WL_at hoN, cel_obj ho h9]
  have hset : (WL G M).set o (adr G o, .inr (ci, (flds G M ci o).set j v)) = WL G M' := WL_set hoN (by rw [cel_obj ho h9, hs]) hot
  have hD := C.2.2.2.2.2.2.2.1.D (M := M)
  have kk : ∀ (H1 : Heap) (locs1 : List Loc), va_P G.1 vwCl ((WL G M).set o (adr G o, .inr (ci, (flds G M ci o).set j v))) H1 → va_D G.2.2.2.1 ((WL G M).set o (adr G o, .inr (ci, (flds G M ci o).set j v))) → va_S G.2.2.2.1 s.heap H1 locs1 → W p l e R s m args below meth c H1 locs1 kc ks (Fn args below s) (F0 m (pc + 3) ls st) := by
    intro H1 locs1 hP1 _ hS1
    rw [hset] at hP1
    exact k p e s m args below meth c H1 locs1 ls C hP1 hS1 hl
  obtain ⟨C1, C2, C3, C4, C5, C6, C7, C8⟩ := C
  rcases hlk with hlk | ⟨host, hlk⟩
  · exact va_put (D := G.1) C1 C2 C7 hin ty0 hty hnm C6 C8.2.1 hP hD hS o he hq j hj (C7 _ hlk) (fun _ h => h) hp2 hp1 hn hfit hlen hd kk
  · exact va_putN (D := G.1) C1 C2 C7 hin ty0 hty hnm C6 C8.2.1 hP hD hS o he hq j hj (va_Nw.use rfl (C8.2.2.1 _ hlk)) (fun _ h => h) hp2 hp1 hn hfit hlen hd kk
theorem T_putI {o ci j idx : Nat} {v : Int32} {K : Mem → Option α} (hcf : CF ci) (hF : FR own idx ci j) (hpt : PT ci j .int) (hd : decode cc pc = .ok (.putfield idx, 3)) (ho : shp o = ci) (hj : (fk ci)[j]? = some 0) (k : ∀ M', T G l own cc nL ret R kc ks Fn Dn (pc + 3) lv st M' (K M')) : T G l own cc nL ret R kc ks Fn Dn pc lv (.int v :: .ref (adr G o) :: st) M (lt (mi M o j v) K) := fun a h d => V_put hcf hF hpt hd ho rfl rfl (by have := (List.getElem?_eq_some_iff.mp hj).1; simpa [flds] using this) (flds_seti hj) cel_mi (k (mi M o j v) a h d)
theorem T_putZ {o ci j idx : Nat} {v : Int32} {K : Mem → Option α} (hcf : CF ci) (hF : FR own idx ci j) (hpt : PT ci j .boolean) (hd : decode cc pc = .ok (.putfield idx, 3)) (ho : shp o = ci) (hj : (fk ci)[j]? = some 0) (k : ∀ M', T G l own cc nL ret R kc ks Fn Dn (pc + 3) lv st M' (K M')) : T G l own cc nL ret R kc ks Fn Dn pc lv (.int v :: .ref (adr G o) :: st) M (gb v (lt (mi M o j v) K)) := fun a h d => by
  by_cases z : v = 0 ∨ v = 1
  · rw [gb, if_pos z] at h
    exact V_put hcf hF hpt hd ho (by rcases z with rfl | rfl <;> decide) (by rcases z with rfl | rfl <;> decide) (by have := (List.getElem?_eq_some_iff.mp hj).1; simpa [flds] using this) (flds_seti hj) cel_mi (k (mi M o j v) a h d)
  · rw [gb, if_neg z] at h; cases h
theorem T_putL {o ci j idx : Nat} {v : Int64} {K : Mem → Option α} (hcf : CF ci) (hF : FR own idx ci j) (hpt : PT ci j .long) (hd : decode cc pc = .ok (.putfield idx, 3)) (ho : shp o = ci) (hj : (fk ci)[j]? = some 1) (k : ∀ M', T G l own cc nL ret R kc ks Fn Dn (pc + 3) lv st M' (K M')) : T G l own cc nL ret R kc ks Fn Dn pc lv (.long v :: .ref (adr G o) :: st) M (lt (ml M o j v) K) := fun a h d => V_put hcf hF hpt hd ho rfl rfl (by have := (List.getElem?_eq_some_iff.mp hj).1; simpa [flds] using this) (flds_setl hj) cel_ml (k (ml M o j v) a h d)
theorem T_iald {q : Nat} {i : Int32} (hd : decode cc pc = .ok (.iaload, 1)) (ho : shp q = 9) (k : T G l own cc nL ret R kc ks Fn Dn (pc + 1) lv (.int (M.1 q i.toNatClampNeg) :: st) M r) : T G l own cc nL ret R kc ks Fn Dn pc lv (.int i :: .ref (adr G q) :: st) M (gi i (ln q) r) := fun a h d p e s m args below meth c H locs ls C hP hS hl => by
  by_cases z : 0 ≤ i.toInt ∧ i.toInt < (ln q : Int)
  · rw [gi, if_pos z] at h
    exact va_iald (D := G.1) C.1 C.2.1 C.2.2.2.2.2.2.2.2.1 hP q 0 (by rw [WL_at (shp_lt (by omega)), cel_i ho]) rfl (vp_in_iff.mpr z) hd (k a h d p e s m args below meth c H locs ls C hP hS hl)
  · rw [gi, if_neg z] at h; cases h
theorem T_zald {q : Nat} {i : Int32} (hd : decode cc pc = .ok (.baload, 1)) (ho : shp q = 11) (k : T G l own cc nL ret R kc ks Fn Dn (pc + 1) lv (.int (M.1 q i.toNatClampNeg) :: st) M r) : T G l own cc nL ret R kc ks Fn Dn pc lv (.int i :: .ref (adr G q) :: st) M (gi i (ln q) r) := fun a h d p e s m args below meth c H locs ls C hP hS hl => by
  by_cases z : 0 ≤ i.toInt ∧ i.toInt < (ln q : Int)
  · rw [gi, if_pos z] at h
    exact va_zald (D := G.1) C.1 C.2.1 C.2.2.2.2.2.2.2.2.1 hP q 2 (by rw [WL_at (shp_lt (by omega)), cel_z ho]) rfl (vp_in_iff.mpr z) hd (k a h d p e s m args below meth c H locs ls C hP hS hl)
  · rw [gi, if_neg z] at h; cases h
theorem T_lald {q : Nat} {i : Int32} (hd : decode cc pc = .ok (.laload, 1)) (ho : shp q = 10) (k : T G l own cc nL ret R kc ks Fn Dn (pc + 1) lv (.long (M.2 q i.toNatClampNeg) :: st) M r) : T G l own cc nL ret R kc ks Fn Dn pc lv (.int i :: .ref (adr G q) :: st) M (gi i (ln q) r) := fun a h d p e s m args below meth c H locs ls C hP hS hl => by
  by_cases z : 0 ≤ i.toInt ∧ i.toInt < (ln q : Int)
  · rw [gi, if_pos z] at h
    exact va_lald (D := G.1) C.1 C.2.1 C.2.2.2.2.2.2.2.2.1 hP q 1 (by rw [WL_at (shp_lt (by omega)), cel_l ho]) rfl (vp_in_iff.mpr z) hd (k a h d p e s m args below meth c H locs ls C hP hS hl)
  · rw [gi, if_neg z] at h; cases h
theorem T_aald {q : Nat} {i : Int32} (hd : decode cc pc = .ok (.aaload, 1)) (ho : 12 ≤ shp q ∧ shp q ≤ 15) (k : i.toNatClampNeg < ln q → T G l own cc nL ret R kc ks Fn Dn (pc + 1) lv (.ref (adr G (ra q i.toNatClampNeg)) :: st) M r) : T G l own cc nL ret R kc ks Fn Dn pc lv (.int i :: .ref (adr G q) :: st) M (gi i (ln q) r) := fun a h d p e s m args below meth c H locs ls C hP hS hl => by
  by_cases z : 0 ≤ i.toInt ∧ i.toInt < (ln q : Int)
  · rw [gi, if_pos z] at h
    have hin : vp_in i (ln q) := vp_in_iff.mpr z
    have hlt : i.toNatClampNeg < ln q := by
      rcases Nat.lt_or_ge i.toNatClampNeg (ln q) with w | w
      · exact w
      · exact absurd (Or.inr w) hin
    have hs : shp q = 12 ∨ shp q = 13 ∨ shp q = 14 ∨ shp q = 15 := by omega
    rcases hs with hs | hs | hs | hs
    · exact va_aldq (D := G.1) C.1 C.2.1 C.2.2.2.2.2.2.2.2.1 hP q 3 (f := fun i => some (adr G (ra q i))) (by rw [WL_at (shp_lt (by omega)), cel_r (by omega), hs]) rfl hin hd (k hlt a h d p e s m args below meth c H locs ls C hP hS hl)
    · exact va_aldq (D := G.1) C.1 C.2.1 C.2.2.2.2.2.2.2.2.1 hP q 4 (f := fun i => some (adr G (ra q i))) (by rw [WL_at (shp_lt (by omega)), cel_r (by omega), hs]) rfl hin hd (k hlt a h d p e s m args below meth c H locs ls C hP hS hl)
    · exact va_aldq (D := G.1) C.1 C.2.1 C.2.2.2.2.2.2.2.2.1 hP q 5 (f := fun i => some (adr G (ra q i))) (by rw [WL_at (shp_lt (by omega)), cel_r (by omega), hs]) rfl hin hd (k hlt a h d p e s m args below meth c H locs ls C hP hS hl)
    · exact va_aldq (D := G.1) C.1 C.2.1 C.2.2.2.2.2.2.2.2.1 hP q 6 (f := fun i => some (adr G (ra q i))) (by rw [WL_at (shp_lt (by omega)), cel_r (by omega), hs]) rfl hin hd (k hlt a h d p e s m args below meth c H locs ls C hP hS hl)
  · rw [gi, if_neg z] at h; cases h
theorem upd_mi {M : Mem} {q j : Nat} {v : Int32} : upd (M.1 q) j v = (mi M q j v).1 q := by
  funext b
  simp [upd, mi]
theorem updL_ml {M : Mem} {q j : Nat} {v : Int64} : vp_updL (M.2 q) j v = (ml M q j v).2 q := by
  funext b
  simp [vp_updL, ml]
theorem T_iast {q : Nat} {i v : Int32} {K : Mem → Option α} (hd : decode cc pc = .ok (.iastore, 1)) (ho : shp q = 9) (k : ∀ M', T G l own cc nL ret R kc ks Fn Dn (pc + 1) lv st M' (K M')) : T G l own cc nL ret R kc ks Fn Dn pc lv (.int v :: .int i :: .ref (adr G q) :: st) M (gi i (ln q) (lt (mi M q i.toNatClampNeg v) K)) := fun a h d p e s m args below meth c H locs ls C hP hS hl => by
  by_cases z : 0 ≤ i.toInt ∧ i.toInt < (ln q : Int)
  · rw [gi, if_pos z] at h
    have hq : q < NC := shp_lt (by omega)
    exact va_iast (D := G.1) C.1 C.2.1 C.2.2.2.2.2.2.2.2.1 hP (C.2.2.2.2.2.2.2.1.D (M := M)) hS q 0 (by rw [WL_at hq, cel_i ho]) rfl (vp_in_iff.mpr z) hd (fun H1 locs1 hP1 _ hS1 => k (mi M q i.toNatClampNeg v) a h d p e s m args below meth c H1 locs1 ls C (by rw [WL_set (M' := mi M q i.toNatClampNeg v) hq (by rw [cel_i ho, upd_mi]) cel_mi] at hP1; exact hP1) hS1 hl)
  · rw [gi, if_neg z] at h; cases h
theorem T_zast {q : Nat} {i v : Int32} {K : Mem → Option α} (hd : decode cc pc = .ok (.bastore, 1)) (ho : shp q = 11) (k : ∀ M', T G l own cc nL ret R kc ks Fn Dn (pc + 1) lv st M' (K M')) : T G l own cc nL ret R kc ks Fn Dn pc lv (.int v :: .int i :: .ref (adr G q) :: st) M (gb v (gi i (ln q) (lt (mi M q i.toNatClampNeg v) K))) := fun a h d p e s m args below meth c H locs ls C hP hS hl => by
  by_cases y : v = 0 ∨ v = 1
  · rw [gb, if_pos y] at h
    have hv : vp_nar .boolean v = v := by rcases y with rfl | rfl <;> decide
    by_cases z : 0 ≤ i.toInt ∧ i.toInt < (ln q : Int)
    · rw [gi, if_pos z] at h
      have hq : q < NC := shp_lt (by omega)
      exact va_zast (D := G.1) C.1 C.2.1 C.2.2.2.2.2.2.2.2.1 hP (C.2.2.2.2.2.2.2.1.D (M := M)) hS q 2 (by rw [WL_at hq, cel_z ho]) rfl (vp_in_iff.mpr z) hd (fun H1 locs1 hP1 _ hS1 => k (mi M q i.toNatClampNeg v) a h d p e s m args below meth c H1 locs1 ls C (by rw [hv, WL_set (M' := mi M q i.toNatClampNeg v) hq (by rw [cel_z ho, upd_mi]) cel_mi] at hP1; exact hP1) hS1 hl)
    · rw [gi, if_neg z] at h; cases h
  · rw [gb, if_neg y] at h; cases h
theorem T_last {q : Nat} {i : Int32} {v : Int64} {K : Mem → Option α} (hd : decode cc pc = .ok (.lastore, 1)) (ho : shp q = 10) (k : ∀ M', T G l own cc nL ret R kc ks Fn Dn (pc + 1) lv st M' (K M')) : T G l own cc nL ret R kc ks Fn Dn pc lv (.long v :: .int i :: .ref (adr G q) :: st) M (gi i (ln q) (lt (ml M q i.toNatClampNeg v) K)) := fun a h d p e s m args below meth c H locs ls C hP hS hl => by
  by_cases z : 0 ≤ i.toInt ∧ i.toInt < (ln q : Int)
  · rw [gi, if_pos z] at h
    have hq : q < NC := shp_lt (by omega)
    exact va_last (D := G.1) C.1 C.2.1 C.2.2.2.2.2.2.2.2.1 hP (C.2.2.2.2.2.2.2.1.D (M := M)) hS q 1 (by rw [WL_at hq, cel_l ho]) rfl (vp_in_iff.mpr z) hd (fun H1 locs1 hP1 _ hS1 => k (ml M q i.toNatClampNeg v) a h d p e s m args below meth c H1 locs1 ls C (by rw [WL_set (M' := ml M q i.toNatClampNeg v) hq (by rw [cel_l ho, updL_ml]) cel_ml] at hP1; exact hP1) hS1 hl)
  · rw [gi, if_neg z] at h; cases h
theorem T_alen {q : Nat} (hd : decode cc pc = .ok (.arraylength, 1)) (ho : shp q = 9) (k : T G l own cc nL ret R kc ks Fn Dn (pc + 1) lv (.int (nI (ln q)) :: st) M r) : T G l own cc nL ret R kc ks Fn Dn pc lv (.ref (adr G q) :: st) M r := fun a h d p e s m args below meth c H locs ls C hP hS hl =>
  va_alen (D := G.1) C.1 C.2.1 C.2.2.2.2.2.2.2.2.1 hP q 0 (x := (ln q, .inl (M.1 q))) (by rw [WL_at (shp_lt (by omega)), cel_i ho]) (ty := .int) rfl rfl hd (k a h d p e s m args below meth c H locs ls C hP hS hl)
theorem cel_mci {M : Mem} {k0 k1 sp dp n : Nat} (h1 : shp k1 = 9) : cel G (mci M k0 k1 sp dp n) k1 = .inl (G.2.2.1 0, ln k1, .inl (va_cpy (M.1 k0) (M.1 k1) sp dp n)) := by rw [cel_i h1]; simp [mci]
theorem cel_mcl {M : Mem} {k0 k1 sp dp n : Nat} (h1 : shp k1 = 10) : cel G (mcl M k0 k1 sp dp n) k1 = .inl (G.2.2.1 1, ln k1, .inr (.inl (va_cpy (M.2 k0) (M.2 k1) sp dp n))) := by rw [cel_l h1]; simp [mcl]
theorem cel_mci_ne {M : Mem} {k0 k1 sp dp n : Nat} : ∀ k, k ≠ k1 → cel G (mci M k0 k1 sp dp n) k = cel G M k := by
  intro k h
  have e1 : (mci M k0 k1 sp dp n).1 k = M.1 k := by simp [mci, h]
  have e2 : (mci M k0 k1 sp dp n).2 = M.2 := rfl
  have e3 : ∀ ci, flds G (mci M k0 k1 sp dp n) ci k = flds G M ci k := by
    intro ci
    have e : ∀ i t, fval G (mci M k0 k1 sp dp n) k i t = fval G M k i t := fun i t => by simp only [fval, e1, e2]
    simp [flds, e]
  unfold cel
  rw [e3, e1, e2]
theorem cel_mcl_ne {M : Mem} {k0 k1 sp dp n : Nat} : ∀ k, k ≠ k1 → cel G (mcl M k0 k1 sp dp n) k = cel G M k := by
  intro k h
  have e1 : (mcl M k0 k1 sp dp n).2 k = M.2 k := by simp [mcl, h]
  have e2 : (mcl M k0 k1 sp dp n).1 = M.1 := rfl
  have e3 : ∀ ci, flds G (mcl M k0 k1 sp dp n) ci k = flds G M ci k := by
    intro ci
    have e : ∀ i t, fval G (mcl M k0 k1 sp dp n) k i t = fval G M k i t := fun i t => by simp only [fval, e1, e2]
    simp [flds, e]
  unfold cel
  rw [e3, e1, e2]
def AW (own : String) (idx : Nat) : Prop := Cond.methodLink own idx arraycopyName ∈ lwT ∧ Cond.native arraycopyName ∈ lwT ∧ Cond.static arraycopyName ∈ lwT ∧ Cond.initialized "java/lang/System" ∈ lwT
theorem T_cpi {q0 q1 idx : Nat} {sp dp n : Int32} {K : Mem → Option α} (hw : AW own idx) (hR : 1 ≤ R.frames ∧ (st.map fun v => v.category).sum + (nativeFrameWords "java/lang/System" "arraycopy" 5 + 11) ≤ R.locals) (hd : decode cc pc = .ok (.invokestatic idx, 3)) (ho0 : shp q0 = 9) (ho : shp q1 = 9) (k : ∀ M', T G l own cc nL ret R kc ks Fn Dn (pc + 3) lv st M' (K M')) : T G l own cc nL ret R kc ks Fn Dn pc lv (.int n :: .int dp :: .ref (adr G q1) :: .int sp :: .ref (adr G q0) :: st) M (gcp (ln q0) (ln q1) sp dp n (lt (mci M q0 q1 sp.toNatClampNeg dp.toNatClampNeg n.toNatClampNeg) K)) := fun a h d p e s m args below meth c H locs ls C hP hS hl => by
  by_cases z : ¬ sp < 0 ∧ ¬ dp < 0 ∧ ¬ n < 0 ∧ sp.toNatClampNeg + n.toNatClampNeg ≤ ln q0 ∧ dp.toNatClampNeg + n.toNatClampNeg ≤ ln q1
  · rw [gcp, if_pos z] at h
    obtain ⟨z1, z2, z3, z4, z5⟩ := z
    have hq0 : q0 < NC := shp_lt (by omega)
    have hq : q1 < NC := shp_lt (by omega)
    have hw7 := C.2.2.2.2.2.2.1
    exact va_copyi (D := G.1) C.1 C.2.1 (by rw [C.2.2.2.2.1]; exact hl.1.symm) C.2.2.2.2.2.1 (hw7 _ hw.1) (hw7 _ hw.2.1) (hw7 _ hw.2.2.1) (hw7 _ hw.2.2.2) C.2.2.2.2.2.2.2.2.1 hP (C.2.2.2.2.2.2.2.1.D (M := M)) hS q0 q1 0 0 (by rw [WL_at hq0, cel_i ho0]) (by rw [WL_at hq, cel_i ho]) (ty := .int) rfl rfl rfl z1 z2 z3 z4 z5 (fun _ _ => rfl) hR.1 hR.2 hd (fun H1 locs1 hP1 _ hS1 => k (mci M q0 q1 sp.toNatClampNeg dp.toNatClampNeg n.toNatClampNeg) a h d p e s m args below meth c H1 locs1 ls C (by rw [WL_set (M' := mci M q0 q1 sp.toNatClampNeg dp.toNatClampNeg n.toNatClampNeg) hq (cel_mci ho) cel_mci_ne] at hP1; exact hP1) hS1 hl)
  · rw [gcp, if_neg z] at h; cases h
theorem T_cpl {q0 q1 idx : Nat} {sp dp n : Int32} {K : Mem → Option α} (hw : AW own idx) (hR : 1 ≤ R.frames ∧ (st.map fun v => v.category).sum + (nativeFrameWords "java/lang/System" "arraycopy" 5 + 11) ≤ R.locals) (hd : decode cc pc = .ok (.invokestatic idx, 3)) (ho0 : shp q0 = 10) (ho : shp q1 = 10) (k : ∀ M', T G l own cc nL ret R kc ks Fn Dn (pc + 3) lv st M' (K M')) : T G l own cc nL ret R kc ks Fn Dn pc lv (.int n :: .int dp :: .ref (adr G q1) :: .int sp :: .ref (adr G q0) :: st) M (gcp (ln q0) (ln q1) sp dp n (lt (mcl M q0 q1 sp.toNatClampNeg dp.toNatClampNeg n.toNatClampNeg) K)) := fun a h d p e s m args below meth c H locs ls C hP hS hl => by
  by_cases z : ¬ sp < 0 ∧ ¬ dp < 0 ∧ ¬ n < 0 ∧ sp.toNatClampNeg + n.toNatClampNeg ≤ ln q0 ∧ dp.toNatClampNeg + n.toNatClampNeg ≤ ln q1
  · rw [gcp, if_pos z] at h
    obtain ⟨z1, z2, z3, z4, z5⟩ := z
    have hq0 : q0 < NC := shp_lt (by omega)
    have hq : q1 < NC := shp_lt (by omega)
    have hw7 := C.2.2.2.2.2.2.1
    exact va_copyl (D := G.1) C.1 C.2.1 (by rw [C.2.2.2.2.1]; exact hl.1.symm) C.2.2.2.2.2.1 (hw7 _ hw.1) (hw7 _ hw.2.1) (hw7 _ hw.2.2.1) (hw7 _ hw.2.2.2) C.2.2.2.2.2.2.2.2.1 hP (C.2.2.2.2.2.2.2.1.D (M := M)) hS q0 q1 1 1 (by rw [WL_at hq0, cel_l ho0]) (by rw [WL_at hq, cel_l ho]) (ty := .long) rfl rfl rfl z1 z2 z3 z4 z5 (fun _ _ => rfl) hR.1 hR.2 hd (fun H1 locs1 hP1 _ hS1 => k (mcl M q0 q1 sp.toNatClampNeg dp.toNatClampNeg n.toNatClampNeg) a h d p e s m args below meth c H1 locs1 ls C (by rw [WL_set (M' := mcl M q0 q1 sp.toNatClampNeg dp.toNatClampNeg n.toNatClampNeg) hq (cel_mcl ho) cel_mcl_ne] at hP1; exact hP1) hS1 hl)
  · rw [gcp, if_neg z] at h; cases h
/-- the static row KIND_OVER -/
theorem T_gets {idx : Nat} (hw : Cond.fieldLink own idx "ShireLines" "KIND_OVER" "[I" ∈ lwT) (hd : decode cc pc = .ok (.getstatic idx, 3)) (k : T G l own cc nL ret R kc ks Fn Dn (pc + 3) lv (.ref G.2.2.2.2 :: st) M r) : T G l own cc nL ret R kc ks Fn Dn pc lv st M r := fun a h d p e s m args below meth c H locs ls C hP hS hl =>
  va_gets C.1 C.2.1 C.2.2.2.2.2.2.2.2.2.2.1 hS C.2.2.2.2.2.1 (C.2.2.2.2.2.2.1 _ hw) (fun _ h => h) hd (k a h d p e s m args below meth c H locs ls C hP hS hl)
def kovI (i : Int32) : Int32 := if i.toNatClampNeg = 0 then -1 else if i.toNatClampNeg = 1 then 0 else if i.toNatClampNeg = 2 then 1 else 0
theorem T_kov {i : Int32} (hd : decode cc pc = .ok (.iaload, 1)) (k : T G l own cc nL ret R kc ks Fn Dn (pc + 1) lv (.int (kovI i) :: st) M r) : T G l own cc nL ret R kc ks Fn Dn pc lv (.int i :: .ref G.2.2.2.2 :: st) M (gi i 4 r) := fun a h d p e s m args below meth c H locs ls C hP hS hl => by
  by_cases z : 0 ≤ i.toInt ∧ i.toInt < ((4 : Nat) : Int)
  · rw [gi, if_pos z] at h
    exact va_ti C.1 C.2.1 C.2.2.2.2.2.2.2.2.2.2.2 hS (vp_in_iff.mpr z) rfl hd (k a h d p e s m args below meth c H locs ls C hP hS hl)
  · rw [gi, if_neg z] at h; cases h
/-! locals fewer; ends of a stretch -/
theorem V_sub {lv' : List (Nat × Value)} (js : List Nat) (hs : lv_pick lv js = lv') (k : V G l own cc nL ret R kc ks Fn pc lv' st M) : V G l own cc nL ret R kc ks Fn pc lv st M := fun p e s m args below meth c H locs ls C hP hS hl => k p e s m args below meth c H locs ls C hP hS (lv_sub hl js hs)
theorem T_sub {lv' : List (Nat × Value)} (js : List Nat) (hs : lv_pick lv js = lv') (k : T G l own cc nL ret R kc ks Fn Dn pc lv' st M r) : T G l own cc nL ret R kc ks Fn Dn pc lv st M r := fun a h d => V_sub js hs (k a h d)
theorem T_end {b : α} (k : Dn b → V G l own cc nL ret R kc ks Fn pc lv st M) : T G l own cc nL ret R kc ks Fn Dn pc lv st M (some b) := fun a h d => by cases h; exact k d
theorem T_gd {c : Prop} {hc : Decidable c} (k : c → T G l own cc nL ret R kc ks Fn Dn pc lv st M r) : T G l own cc nL ret R kc ks Fn Dn pc lv st M (gd c hc r) := fun a h d => by
  by_cases z : c
  · rw [gd, if_pos z] at h; exact k z a h d
  · rw [gd, if_neg z] at h; cases h
theorem T_gb {i : Int32} (k : i = 0 ∨ i = 1 → T G l own cc nL ret R kc ks Fn Dn pc lv st M r) : T G l own cc nL ret R kc ks Fn Dn pc lv st M (gb i r) := fun a h d => by
  by_cases z : i = 0 ∨ i = 1
  · rw [gb, if_pos z] at h; exact k z a h d
  · rw [gb, if_neg z] at h; cases h
theorem T_bind {β : Type} {f : Option β} {K : β → Option α} {X : β → Prop} (h1 : T G l own cc nL ret R kc ks Fn X pc lv st M f) (h2 : ∀ b a, K b = some a → Dn a → X b) : T G l own cc nL ret R kc ks Fn Dn pc lv st M (f.bind K) := fun a h d => by
  cases hf : f with
  | none => rw [hf] at h; cases h
  | some b => rw [hf] at h; exact h1 b hf (h2 b a h d)
theorem T_loop {S Q : Type} {body : S → Option (S ⊕ Q)} {X : Q → Prop} (lvS : S → List (Nat × Value)) (MS : S → Mem)
    (hb : ∀ s : S, T G l own cc nL ret R kc ks Fn (fun q : S ⊕ Q => match q with | .inl s' => V G l own cc nL ret R kc ks Fn pc (lvS s') st (MS s') | .inr x => X x) pc (lvS s) st (MS s) (body s)) (s0 : S) :
    T G l own cc nL ret R kc ks Fn X pc (lvS s0) st (MS s0) (wh body s0) := by
  intro x hx dx
  obtain ⟨n, hn⟩ := wh_ex hx
  clear hx
  induction n generalizing s0 with
  | zero => simp [itN] at hn
  | succ n ih =>
    unfold itN at hn
    cases hbs : body s0 with
    | none => rw [hbs] at hn; cases hn
    | some q =>
      rw [hbs] at hn
      cases q with
      | inl s' => exact hb s0 _ hbs (ih s' hn)
      | inr y => cases hn; exact hb s0 _ hbs dx
end VROWS
/-! contracts -/
def QM (G : Gw) (v : Option Value) (M' : Mem) : Array Value → State → Outcome → State → Prop := fun _ st o t => o = .returned v ∧ PH G M' t.heap ∧ va_F G.2.2.2.1 st t
def FinM (G : Gw) (v : Option Value) (M' : Mem) : Array Value → List Frame → State → State → Prop := fun args below s => MQ below (QM G v M') args s 0 0 G.2.2.2.1
def PM (G : Gw) (av : List Value) (M : Mem) : Array Value → State → Prop := va_Pc av (fun U => GS G U ∧ PH G M U.heap)
def rmOf (fr lo : Nat) : Room := { frames := fr, cells := 0, slots := 0, locals := lo }
def CtP (G : Gw) (l : Launch) (y : MethodName) (cc : ByteArray) (nL : Nat) (ret : Option FieldType) (fr lo : Nat) (av : List Value) (M : Mem) (v : Option Value) (M' : Mem) : Prop :=
  Met l y (.code y cc nL ret :: lwT) (rmOf fr lo) (PM G av M) (QM G v M') 0 0 G.2.2.2.1
theorem CtP.ofV {G : Gw} {l : Launch} {y : MethodName} {cc : ByteArray} {nL : Nat} {ret : Option FieldType} {fr lo : Nat} {av : List Value} {M M' : Mem} {v : Option Value} (hy : plainName y.cls = true) (hle : (lg_sl av).length ≤ nL)
    (k : V G l y.cls cc nL ret (rmOf fr lo) 0 0 (FinM G v M') 0 (lv_args 0 av) [] M) : CtP G l y cc nL ret fr lo av M v M' := by
  refine Met.ofW (cc := cc) (maxL := nL) (ret := ret) hy rfl ?_
  intro p e s m args below meth c s₁ B hml hv
  obtain ⟨rfl, hG, hP⟩ := hv
  have hts := atoms_spec (ws := .code y cc nL ret :: lwT) B.pre
  have hl := lv_entry av hle
  rw [lg_entry_eq]
  exact k p e s m av.toArray below meth c s.heap [] _ ⟨B.exec, B.bytes, B.returns, B.notSynchronized, hml, findClass_of_methodNamed B.named, fun w hw => hts w (List.mem_cons_of_mem _ hw), hG⟩ hP va_S.rf hl
section VRET
variable {G : Gw} {l : Launch} {own : String} {cc : ByteArray} {nL : Nat} {R : Room} {pc : Nat} {lv : List (Nat × Value)} {M : Mem}
theorem V_iret {v : Int32} (hd : decode cc pc = .ok (.ireturn, 1)) : V G l own cc nL (some .int) R 0 0 (FinM G (some (.int v)) M) pc lv [.int v] M := fun p e s m args below meth c H locs ls C hP hS hl => by
  have hlk := C.2.2.2.1
  exact W.iret C.1 C.2.1 C.2.2.1 (fun t ht _ => ⟨rfl, by rw [ht]; exact hP, hS.F ht⟩) hS.2.2 hd
theorem V_zret {v : Int32} (hv : v = 0 ∨ v = 1) (hd : decode cc pc = .ok (.ireturn, 1)) : V G l own cc nL (some .boolean) R 0 0 (FinM G (some (.int v)) M) pc lv [.int v] M := fun p e s m args below meth c H locs ls C hP hS hl => by
  have hlk := C.2.2.2.1
  exact W.zret C.1 C.2.1 C.2.2.1 (by rcases hv with rfl | rfl <;> decide) (fun t ht _ => ⟨rfl, by rw [ht]; exact hP, hS.F ht⟩) hS.2.2 hd
theorem V_lret {v : Int64} (hd : decode cc pc = .ok (.lreturn, 1)) : V G l own cc nL (some .long) R 0 0 (FinM G (some (.long v)) M) pc lv [.long v] M := fun p e s m args below meth c H locs ls C hP hS hl => by
  have hlk := C.2.2.2.1
  exact W.lret C.1 C.2.1 C.2.2.1 (fun t ht _ => ⟨rfl, by rw [ht]; exact hP, hS.F ht⟩) hS.2.2 hd
theorem V_vret (hd : decode cc pc = .ok (.return_, 1)) : V G l own cc nL none R 0 0 (FinM G none M) pc lv [] M := fun p e s m args below meth c H locs ls C hP hS hl => by
  have hlk := C.2.2.2.1
  exact W.vret C.1 C.2.1 C.2.2.1 (fun t ht _ => ⟨rfl, by rw [ht]; exact hP, hS.F ht⟩) hS.2.2 hd
theorem V_aret {o : Nat} {cn : String} (hd : decode cc pc = .ok (.areturn, 1)) : V G l own cc nL (some (.object cn)) R 0 0 (FinM G (some (.ref (adr G o))) M) pc lv [.ref (adr G o)] M := fun p e s m args below meth c H locs ls C hP hS hl => by
  have hlk := C.2.2.2.1
  exact W.aret C.1 C.2.1 C.2.2.1 (Or.inl ⟨_, rfl⟩) (Or.inr ⟨_, rfl⟩) (fun t ht _ => ⟨rfl, by rw [ht]; exact hP, hS.F ht⟩) hS.2.2 hd
end VRET
/-! calls -/
def MS (own : String) (idx : Nat) (y : MethodName) (cc : ByteArray) (nL : Nat) (ret : Option FieldType) (n : Nat) : Prop :=
  Cond.methodLink own idx y ∈ lwT ∧ Cond.code y cc nL ret ∈ lwT ∧ Cond.initialized y.cls ∈ lwT ∧ (y.cls ≠ "java/lang/invoke/MethodHandle" ∧ y.cls ≠ "java/lang/invoke/VarHandle" ∧ (parseMethodDescriptor y.desc).map (fun d => d.parameters.length) = some n) ∧ Cond.static y ∈ lwT
def MV (own : String) (idx ci : Nat) (y : MethodName) (cc : ByteArray) (nL : Nat) (ret : Option FieldType) (n : Nat) : Prop :=
  ci < 9 ∧ (∃ q : vw_C, vwCl[ci]? = some q ∧ q.1 = y.cls) ∧ Cond.methodLink own idx y ∈ lwT ∧ Cond.code y cc nL ret ∈ lwT ∧ Cond.initialized y.cls ∈ lwT ∧ (y.cls ≠ "java/lang/invoke/MethodHandle" ∧ y.cls ≠ "java/lang/invoke/VarHandle" ∧ (parseMethodDescriptor y.desc).map (fun d => d.parameters.length) = some n) ∧ Cond.instanceMethod y ∈ lwT ∧ Cond.selects y.cls y y ∈ lwT
section VCALL
variable {G : Gw} {l : Launch} {own : String} {cc : ByteArray} {nL : Nat} {ret : Option FieldType} {R : Room} {kc ks : Nat} {Fn : Array Value → List Frame → State → State → Prop} {α : Type} {Dn : α → Prop} {pc : Nat} {lv : List (Nat × Value)} {st : List Value} {M : Mem} {r : Option α}
theorem PM_blind {av : List Value} : FrameBlind (PM G av M) := fun a U g mk h => ⟨h.1, h.2.1.blind, h.2.2⟩
theorem V_run {st0 : List Value} {v : Option Value} {M' : Mem} (hr : ∀ (p : Program) (e : Env) (s : State) (m : MethodId) (args : Array Value) (below : List Frame) (meth : Method) (c : Code) (H : Heap) (locs : List Loc) (ls : Array Slot), Cx G own cc nL ret p s m args meth c → PH G M H → va_S G.2.2.2.1 s.heap H locs → lv_has ls nL lv → va_Run p l e R s m args below meth c H locs kc ks 0 0 (F0 m pc ls st0) st (fun st₀ o t => o = .returned v ∧ PH G M' t.heap ∧ va_F G.2.2.2.1 st₀ t) G.2.2.2.1)
    (k : V G l own cc nL ret R kc ks Fn (pc + 3) lv (v.toList ++ st) M') : V G l own cc nL ret R kc ks Fn pc lv st0 M := by
  intro p e s m args below meth c H locs ls C hP hS hl Ts hT X
  obtain ⟨v', st₀, t, T', L, h0, X', hL, e1, e2, ⟨hv, hPt, hz, hk⟩, stp⟩ := hr p e s m args below meth c H locs ls C hP hS hl Ts hT X
  cases hv
  rw [h0] at hz hk
  obtain ⟨t2, a1, b1⟩ := k p e s m args below meth c T'.heap (locs ++ L) ls C (by rw [e1]; exact hPt)
    ⟨Nat.le_trans hS.1 (by rw [e1]; exact hz), fun q h1 h2 => by rw [e1, hk q (Nat.lt_of_lt_of_le h1 hS.1) h2]; exact hS.2.1 q h1 h2, fun q hq => by
      rcases List.mem_append.mp hq with h | h
      · exact hS.2.2 q h
      · exact hL q h⟩ hl T' rfl X'
  exact ⟨t2, stp t2 a1, b1⟩
theorem V_callS {y : MethodName} {cy : ByteArray} {nY n idx fr lo : Nat} {ry : Option FieldType} {As st0 : List Value} {v : Option Value} {M' : Mem} (hm : MS own idx y cy nY ry n) (hR : (fr + 1 ≤ R.frames ∧ 8 + (nY + 11) + lo ≤ R.locals) ∧ kc ≤ R.cells ∧ ks ≤ R.slots) (hd : decode cc pc = .ok (.invokestatic idx, 3)) (hn : As.length = n) (hst : st0 = As.reverse ++ st) (hW : (st.map fun v => v.category).sum ≤ 8)
    (hM : CtP G l y cy nY ry fr lo As M v M') (k : V G l own cc nL ret R kc ks Fn (pc + 3) lv (v.toList ++ st) M') : V G l own cc nL ret R kc ks Fn pc lv st0 M := by
  refine V_run (v := v) (M' := M') (fun p e s m args below meth c H locs ls C hP hS hl => ?_) k
  obtain ⟨C1, C2, C3, C4, C5, C6, C7, C8⟩ := C
  obtain ⟨m1, m2, m3, m4, m5⟩ := hm
  exact va_runS (As := As) (rest := st) (Ts := lwT) ⟨C1, C2, C5, C6, C7⟩ hM ⟨callB_of n C7 (goodT m2) rfl rfl rfl (C7 _ m3) (C7 _ m1) m4 hR.1, C7 _ m5⟩ ⟨PM_blind, fun U hU hWm => ⟨rfl, C8.warm hS hU hWm, by rw [hU]; exact hP⟩⟩ rfl hn hl.1 hst (lv_room hW) hd hR.2
theorem V_callV {y : MethodName} {cy : ByteArray} {nY n idx ci o fr lo : Nat} {ry : Option FieldType} {As st0 : List Value} {v : Option Value} {M' : Mem} (hm : MV own idx ci y cy nY ry n) (hR : (fr + 1 ≤ R.frames ∧ 8 + (nY + 11) + lo ≤ R.locals) ∧ kc ≤ R.cells ∧ ks ≤ R.slots) (hd : decode cc pc = .ok (.invokevirtual idx, 3)) (ho : shp o = ci) (hn : As.length = n) (hst : st0 = As.reverse ++ .ref (adr G o) :: st) (hW : (st.map fun v => v.category).sum ≤ 8)
    (hM : CtP G l y cy nY ry fr lo (.ref (adr G o) :: As) M v M') (k : V G l own cc nL ret R kc ks Fn (pc + 3) lv (v.toList ++ st) M') : V G l own cc nL ret R kc ks Fn pc lv st0 M := by
  refine V_run (v := v) (M' := M') (fun p e s m args below meth c H locs ls C hP hS hl => ?_) k
  obtain ⟨C1, C2, C3, C4, C5, C6, C7, C8⟩ := C
  obtain ⟨h9, ⟨q, hq, hqy⟩, m1, m2, m3, m4, m5, m6⟩ := hm
  have hoN : o < NC := shp_lt (by omega)
  have he : (WL G M)[o]? = some (adr G o, .inr (ci, flds G M ci o)) := by rw [WL_at hoN, cel_obj ho h9]
  have hrec := va_recv C8.2.1 hP hq he
  rw [hqy] at hrec
  exact va_runV (As := As) (rest := st) (Ts := lwT) (C := y.cls) ⟨C1, C2, C5, C6, C7⟩ hM ⟨callB_of n C7 (goodT m2) rfl rfl rfl (C7 _ m3) (C7 _ m1) m4 hR.1, C7 _ m5, C7 _ m6⟩ ⟨PM_blind, hrec, fun U hU hWm => ⟨rfl, C8.warm hS hU hWm, by rw [hU]; exact hP⟩⟩ rfl hn hl.1 hst (lv_room hW) hd hR.2
theorem T_callSi {y : MethodName} {cy : ByteArray} {nY n idx fr lo : Nat} {ry : Option FieldType} {As st0 : List Value} {f : Option Int32} {K : Int32 → Option α} (hm : MS own idx y cy nY ry n) (hR : (fr + 1 ≤ R.frames ∧ 8 + (nY + 11) + lo ≤ R.locals) ∧ kc ≤ R.cells ∧ ks ≤ R.slots) (hd : decode cc pc = .ok (.invokestatic idx, 3)) (hM : ∀ b, f = some b → CtP G l y cy nY ry fr lo As M (some (.int b)) (M)) (hn : As.length = n) (hst : st0 = As.reverse ++ st) (hW : (st.map fun v => v.category).sum ≤ 8) (k : ∀ b : Int32, T G l own cc nL ret R kc ks Fn Dn (pc + 3) lv (.int b :: st) (M) (K b)) : T G l own cc nL ret R kc ks Fn Dn pc lv st0 M (f.bind K) := fun a h d => by
  cases hf : f with
  | none => rw [hf] at h; cases h
  | some b => rw [hf] at h; exact V_callS hm hR hd hn hst hW (hM b hf) (k b a h d)
theorem T_callVi {y : MethodName} {cy : ByteArray} {nY n idx ci o fr lo : Nat} {ry : Option FieldType} {As st0 : List Value} {f : Option Int32} {K : Int32 → Option α} (hm : MV own idx ci y cy nY ry n) (hR : (fr + 1 ≤ R.frames ∧ 8 + (nY + 11) + lo ≤ R.locals) ∧ kc ≤ R.cells ∧ ks ≤ R.slots) (hd : decode cc pc = .ok (.invokevirtual idx, 3)) (ho : shp o = ci) (hM : ∀ b, f = some b → CtP G l y cy nY ry fr lo (.ref (adr G o) :: As) M (some (.int b)) (M)) (hn : As.length = n) (hst : st0 = As.reverse ++ .ref (adr G o) :: st) (hW : (st.map fun v => v.category).sum ≤ 8) (k : ∀ b : Int32, T G l own cc nL ret R kc ks Fn Dn (pc + 3) lv (.int b :: st) (M) (K b)) : T G l own cc nL ret R kc ks Fn Dn pc lv st0 M (f.bind K) := fun a h d => by
  cases hf : f with
  | none => rw [hf] at h; cases h
  | some b => rw [hf] at h; exact V_callV hm hR hd ho hn hst hW (hM b hf) (k b a h d)
theorem T_callSiw {y : MethodName} {cy : ByteArray} {nY n idx fr lo : Nat} {ry : Option FieldType} {As st0 : List Value} {f : Option (Int32 × Mem)} {K : (Int32 × Mem) → Option α} (hm : MS own idx y cy nY ry n) (hR : (fr + 1 ≤ R.frames ∧ 8 + (nY + 11) + lo ≤ R.locals) ∧ kc ≤ R.cells ∧ ks ≤ R.slots) (hd : decode cc pc = .ok (.invokestatic idx, 3)) (hM : ∀ b, f = some b → CtP G l y cy nY ry fr lo As M (some (.int b.1)) (b.2)) (hn : As.length = n) (hst : st0 = As.reverse ++ st) (hW : (st.map fun v => v.category).sum ≤ 8) (k : ∀ b : (Int32 × Mem), T G l own cc nL ret R kc ks Fn Dn (pc + 3) lv (.int b.1 :: st) (b.2) (K b)) : T G l own cc nL ret R kc ks Fn Dn pc lv st0 M (f.bind K) := fun a h d => by
  cases hf : f with
  | none => rw [hf] at h; cases h
  | some b => rw [hf] at h; exact V_callS hm hR hd hn hst hW (hM b hf) (k b a h d)
theorem T_callViw {y : MethodName} {cy : ByteArray} {nY n idx ci o fr lo : Nat} {ry : Option FieldType} {As st0 : List Value} {f : Option (Int32 × Mem)} {K : (Int32 × Mem) → Option α} (hm : MV own idx ci y cy nY ry n) (hR : (fr + 1 ≤ R.frames ∧ 8 + (nY + 11) + lo ≤ R.locals) ∧ kc ≤ R.cells ∧ ks ≤ R.slots) (hd : decode cc pc = .ok (.invokevirtual idx, 3)) (ho : shp o = ci) (hM : ∀ b, f = some b → CtP G l y cy nY ry fr lo (.ref (adr G o) :: As) M (some (.int b.1)) (b.2)) (hn : As.length = n) (hst : st0 = As.reverse ++ .ref (adr G o) :: st) (hW : (st.map fun v => v.category).sum ≤ 8) (k : ∀ b : (Int32 × Mem), T G l own cc nL ret R kc ks Fn Dn (pc + 3) lv (.int b.1 :: st) (b.2) (K b)) : T G l own cc nL ret R kc ks Fn Dn pc lv st0 M (f.bind K) := fun a h d => by
  cases hf : f with
  | none => rw [hf] at h; cases h
  | some b => rw [hf] at h; exact V_callV hm hR hd ho hn hst hW (hM b hf) (k b a h d)
theorem T_callSl {y : MethodName} {cy : ByteArray} {nY n idx fr lo : Nat} {ry : Option FieldType} {As st0 : List Value} {f : Option Int64} {K : Int64 → Option α} (hm : MS own idx y cy nY ry n) (hR : (fr + 1 ≤ R.frames ∧ 8 + (nY + 11) + lo ≤ R.locals) ∧ kc ≤ R.cells ∧ ks ≤ R.slots) (hd : decode cc pc = .ok (.invokestatic idx, 3)) (hM : ∀ b, f = some b → CtP G l y cy nY ry fr lo As M (some (.long b)) (M)) (hn : As.length = n) (hst : st0 = As.reverse ++ st) (hW : (st.map fun v => v.category).sum ≤ 8) (k : ∀ b : Int64, T G l own cc nL ret R kc ks Fn Dn (pc + 3) lv (.long b :: st) (M) (K b)) : T G l own cc nL ret R kc ks Fn Dn pc lv st0 M (f.bind K) := fun a h d => by
  cases hf : f with
  | none => rw [hf] at h; cases h
  | some b => rw [hf] at h; exact V_callS hm hR hd hn hst hW (hM b hf) (k b a h d)
theorem T_callVl {y : MethodName} {cy : ByteArray} {nY n idx ci o fr lo : Nat} {ry : Option FieldType} {As st0 : List Value} {f : Option Int64} {K : Int64 → Option α} (hm : MV own idx ci y cy nY ry n) (hR : (fr + 1 ≤ R.frames ∧ 8 + (nY + 11) + lo ≤ R.locals) ∧ kc ≤ R.cells ∧ ks ≤ R.slots) (hd : decode cc pc = .ok (.invokevirtual idx, 3)) (ho : shp o = ci) (hM : ∀ b, f = some b → CtP G l y cy nY ry fr lo (.ref (adr G o) :: As) M (some (.long b)) (M)) (hn : As.length = n) (hst : st0 = As.reverse ++ .ref (adr G o) :: st) (hW : (st.map fun v => v.category).sum ≤ 8) (k : ∀ b : Int64, T G l own cc nL ret R kc ks Fn Dn (pc + 3) lv (.long b :: st) (M) (K b)) : T G l own cc nL ret R kc ks Fn Dn pc lv st0 M (f.bind K) := fun a h d => by
  cases hf : f with
  | none => rw [hf] at h; cases h
  | some b => rw [hf] at h; exact V_callV hm hR hd ho hn hst hW (hM b hf) (k b a h d)
theorem T_callSlw {y : MethodName} {cy : ByteArray} {nY n idx fr lo : Nat} {ry : Option FieldType} {As st0 : List Value} {f : Option (Int64 × Mem)} {K : (Int64 × Mem) → Option α} (hm : MS own idx y cy nY ry n) (hR : (fr + 1 ≤ R.frames ∧ 8 + (nY + 11) + lo ≤ R.locals) ∧ kc ≤ R.cells ∧ ks ≤ R.slots) (hd : decode cc pc = .ok (.invokestatic idx, 3)) (hM : ∀ b, f = some b → CtP G l y cy nY ry fr lo As M (some (.long b.1)) (b.2)) (hn : As.length = n) (hst : st0 = As.reverse ++ st) (hW : (st.map fun v => v.category).sum ≤ 8) (k : ∀ b : (Int64 × Mem), T G l own cc nL ret R kc ks Fn Dn (pc + 3) lv (.long b.1 :: st) (b.2) (K b)) : T G l own cc nL ret R kc ks Fn Dn pc lv st0 M (f.bind K) := fun a h d => by
  cases hf : f with
  | none => rw [hf] at h; cases h
  | some b => rw [hf] at h; exact V_callS hm hR hd hn hst hW (hM b hf) (k b a h d)
theorem T_callVlw {y : MethodName} {cy : ByteArray} {nY n idx ci o fr lo : Nat} {ry : Option FieldType} {As st0 : List Value} {f : Option (Int64 × Mem)} {K : (Int64 × Mem) → Option α} (hm : MV own idx ci y cy nY ry n) (hR : (fr + 1 ≤ R.frames ∧ 8 + (nY + 11) + lo ≤ R.locals) ∧ kc ≤ R.cells ∧ ks ≤ R.slots) (hd : decode cc pc = .ok (.invokevirtual idx, 3)) (ho : shp o = ci) (hM : ∀ b, f = some b → CtP G l y cy nY ry fr lo (.ref (adr G o) :: As) M (some (.long b.1)) (b.2)) (hn : As.length = n) (hst : st0 = As.reverse ++ .ref (adr G o) :: st) (hW : (st.map fun v => v.category).sum ≤ 8) (k : ∀ b : (Int64 × Mem), T G l own cc nL ret R kc ks Fn Dn (pc + 3) lv (.long b.1 :: st) (b.2) (K b)) : T G l own cc nL ret R kc ks Fn Dn pc lv st0 M (f.bind K) := fun a h d => by
  cases hf : f with
  | none => rw [hf] at h; cases h
  | some b => rw [hf] at h; exact V_callV hm hR hd ho hn hst hW (hM b hf) (k b a h d)
theorem T_callSr {y : MethodName} {cy : ByteArray} {nY n idx fr lo : Nat} {ry : Option FieldType} {As st0 : List Value} {f : Option Nat} {K : Nat → Option α} (hm : MS own idx y cy nY ry n) (hR : (fr + 1 ≤ R.frames ∧ 8 + (nY + 11) + lo ≤ R.locals) ∧ kc ≤ R.cells ∧ ks ≤ R.slots) (hd : decode cc pc = .ok (.invokestatic idx, 3)) (hM : ∀ b, f = some b → CtP G l y cy nY ry fr lo As M (some (.ref (adr G b))) (M)) (hn : As.length = n) (hst : st0 = As.reverse ++ st) (hW : (st.map fun v => v.category).sum ≤ 8) (k : ∀ b : Nat, T G l own cc nL ret R kc ks Fn Dn (pc + 3) lv (.ref (adr G b) :: st) (M) (K b)) : T G l own cc nL ret R kc ks Fn Dn pc lv st0 M (f.bind K) := fun a h d => by
  cases hf : f with
  | none => rw [hf] at h; cases h
  | some b => rw [hf] at h; exact V_callS hm hR hd hn hst hW (hM b hf) (k b a h d)
theorem T_callVr {y : MethodName} {cy : ByteArray} {nY n idx ci o fr lo : Nat} {ry : Option FieldType} {As st0 : List Value} {f : Option Nat} {K : Nat → Option α} (hm : MV own idx ci y cy nY ry n) (hR : (fr + 1 ≤ R.frames ∧ 8 + (nY + 11) + lo ≤ R.locals) ∧ kc ≤ R.cells ∧ ks ≤ R.slots) (hd : decode cc pc = .ok (.invokevirtual idx, 3)) (ho : shp o = ci) (hM : ∀ b, f = some b → CtP G l y cy nY ry fr lo (.ref (adr G o) :: As) M (some (.ref (adr G b))) (M)) (hn : As.length = n) (hst : st0 = As.reverse ++ .ref (adr G o) :: st) (hW : (st.map fun v => v.category).sum ≤ 8) (k : ∀ b : Nat, T G l own cc nL ret R kc ks Fn Dn (pc + 3) lv (.ref (adr G b) :: st) (M) (K b)) : T G l own cc nL ret R kc ks Fn Dn pc lv st0 M (f.bind K) := fun a h d => by
  cases hf : f with
  | none => rw [hf] at h; cases h
  | some b => rw [hf] at h; exact V_callV hm hR hd ho hn hst hW (hM b hf) (k b a h d)
theorem T_callSrw {y : MethodName} {cy : ByteArray} {nY n idx fr lo : Nat} {ry : Option FieldType} {As st0 : List Value} {f : Option (Nat × Mem)} {K : (Nat × Mem) → Option α} (hm : MS own idx y cy nY ry n) (hR : (fr + 1 ≤ R.frames ∧ 8 + (nY + 11) + lo ≤ R.locals) ∧ kc ≤ R.cells ∧ ks ≤ R.slots) (hd : decode cc pc = .ok (.invokestatic idx, 3)) (hM : ∀ b, f = some b → CtP G l y cy nY ry fr lo As M (some (.ref (adr G b.1))) (b.2)) (hn : As.length = n) (hst : st0 = As.reverse ++ st) (hW : (st.map fun v => v.category).sum ≤ 8) (k : ∀ b : (Nat × Mem), T G l own cc nL ret R kc ks Fn Dn (pc + 3) lv (.ref (adr G b.1) :: st) (b.2) (K b)) : T G l own cc nL ret R kc ks Fn Dn pc lv st0 M (f.bind K) := fun a h d => by
  cases hf : f with
  | none => rw [hf] at h; cases h
  | some b => rw [hf] at h; exact V_callS hm hR hd hn hst hW (hM b hf) (k b a h d)
theorem T_callVrw {y : MethodName} {cy : ByteArray} {nY n idx ci o fr lo : Nat} {ry : Option FieldType} {As st0 : List Value} {f : Option (Nat × Mem)} {K : (Nat × Mem) → Option α} (hm : MV own idx ci y cy nY ry n) (hR : (fr + 1 ≤ R.frames ∧ 8 + (nY + 11) + lo ≤ R.locals) ∧ kc ≤ R.cells ∧ ks ≤ R.slots) (hd : decode cc pc = .ok (.invokevirtual idx, 3)) (ho : shp o = ci) (hM : ∀ b, f = some b → CtP G l y cy nY ry fr lo (.ref (adr G o) :: As) M (some (.ref (adr G b.1))) (b.2)) (hn : As.length = n) (hst : st0 = As.reverse ++ .ref (adr G o) :: st) (hW : (st.map fun v => v.category).sum ≤ 8) (k : ∀ b : (Nat × Mem), T G l own cc nL ret R kc ks Fn Dn (pc + 3) lv (.ref (adr G b.1) :: st) (b.2) (K b)) : T G l own cc nL ret R kc ks Fn Dn pc lv st0 M (f.bind K) := fun a h d => by
  cases hf : f with
  | none => rw [hf] at h; cases h
  | some b => rw [hf] at h; exact V_callV hm hR hd ho hn hst hW (hM b hf) (k b a h d)
theorem T_callSvw {y : MethodName} {cy : ByteArray} {nY n idx fr lo : Nat} {ry : Option FieldType} {As st0 : List Value} {f : Option Mem} {K : Mem → Option α} (hm : MS own idx y cy nY ry n) (hR : (fr + 1 ≤ R.frames ∧ 8 + (nY + 11) + lo ≤ R.locals) ∧ kc ≤ R.cells ∧ ks ≤ R.slots) (hd : decode cc pc = .ok (.invokestatic idx, 3)) (hM : ∀ b, f = some b → CtP G l y cy nY ry fr lo As M (none) (b)) (hn : As.length = n) (hst : st0 = As.reverse ++ st) (hW : (st.map fun v => v.category).sum ≤ 8) (k : ∀ b : Mem, T G l own cc nL ret R kc ks Fn Dn (pc + 3) lv (st) (b) (K b)) : T G l own cc nL ret R kc ks Fn Dn pc lv st0 M (f.bind K) := fun a h d => by
  cases hf : f with
  | none => rw [hf] at h; cases h
  | some b => rw [hf] at h; exact V_callS hm hR hd hn hst hW (hM b hf) (k b a h d)
theorem T_callVvw {y : MethodName} {cy : ByteArray} {nY n idx ci o fr lo : Nat} {ry : Option FieldType} {As st0 : List Value} {f : Option Mem} {K : Mem → Option α} (hm : MV own idx ci y cy nY ry n) (hR : (fr + 1 ≤ R.frames ∧ 8 + (nY + 11) + lo ≤ R.locals) ∧ kc ≤ R.cells ∧ ks ≤ R.slots) (hd : decode cc pc = .ok (.invokevirtual idx, 3)) (ho : shp o = ci) (hM : ∀ b, f = some b → CtP G l y cy nY ry fr lo (.ref (adr G o) :: As) M (none) (b)) (hn : As.length = n) (hst : st0 = As.reverse ++ .ref (adr G o) :: st) (hW : (st.map fun v => v.category).sum ≤ 8) (k : ∀ b : Mem, T G l own cc nL ret R kc ks Fn Dn (pc + 3) lv (st) (b) (K b)) : T G l own cc nL ret R kc ks Fn Dn pc lv st0 M (f.bind K) := fun a h d => by
  cases hf : f with
  | none => rw [hf] at h; cases h
  | some b => rw [hf] at h; exact V_callV hm hR hd ho hn hst hW (hM b hf) (k b a h d)
end VCALL
end
section
theorem tsw0 {x : Int32} {n : Nat} (hn : n < 1000) (h : ∀ j : Nat, j < n → ¬ x = nI j) : x.toInt < 0 ∨ (n : Int) - 1 < x.toInt := by
  rcases Classical.em (x.toInt < 0 ∨ (n : Int) - 1 < x.toInt) with z | z
  · exact z
  · exfalso
    have h1 : 0 ≤ x.toInt := by omega
    obtain ⟨j, hj, hx⟩ := vp_in_of (x := x) (n := n) (vp_in_iff.mpr ⟨h1, by omega⟩) (by omega)
    exact h j hj hx
theorem cf0 : CF 0 := fun q h => by cases h; exact ⟨by decide +kernel, tyX0, tyX0_ok, nmX0⟩
theorem cf1 : CF 1 := fun q h => by cases h; exact ⟨by decide +kernel, tyX1, tyX1_ok, nmX1⟩
theorem cf2 : CF 2 := fun q h => by cases h; exact ⟨by decide +kernel, tyX2, tyX2_ok, nmX2⟩
theorem cf3 : CF 3 := fun q h => by cases h; exact ⟨by decide +kernel, tyX4, tyX4_ok, nmX4⟩
theorem cf4 : CF 4 := fun q h => by cases h; exact ⟨by decide +kernel, tyX5, tyX5_ok, nmX5⟩
theorem cf5 : CF 5 := fun q h => by cases h; exact ⟨by decide +kernel, tyX6, tyX6_ok, nmX6⟩
theorem cf6 : CF 6 := fun q h => by cases h; exact ⟨by decide +kernel, tyX7, tyX7_ok, nmX7⟩
theorem cf7 : CF 7 := fun q h => by cases h; exact ⟨by decide +kernel, tyX8, tyX8_ok, nmX8⟩
theorem kcl_J13_314 : Cond.constantLong RJ13 314 (6148914691236517205) ∈ lwT := (inW (List.mem_of_getElem? (i := 392) (by decide +kernel)) rfl)
theorem kcl_J13_316 : Cond.constantLong RJ13 316 (3689348814741910323) ∈ lwT := (inW (List.mem_of_getElem? (i := 393) (by decide +kernel)) rfl)
theorem kcl_J13_318 : Cond.constantLong RJ13 318 (1085102592571150095) ∈ lwT := (inW (List.mem_of_getElem? (i := 394) (by decide +kernel)) rfl)
theorem fr_X0_9 : FR RX0 9 0 0 := ⟨_, rfl, by decide, by decide, Or.inl (inW (List.mem_of_getElem? (i := 64) (by decide +kernel)) rfl)⟩
theorem fr_X0_15 : FR RX0 15 0 2 := ⟨_, rfl, by decide, by decide, Or.inl (inW (List.mem_of_getElem? (i := 69) (by decide +kernel)) rfl)⟩
theorem fr_X0_18 : FR RX0 18 0 3 := ⟨_, rfl, by decide, by decide, Or.inl (inW (List.mem_of_getElem? (i := 71) (by decide +kernel)) rfl)⟩
theorem ms_X4_35 : MS RX4 35 yX4_isSlot cX4_isSlot 1 (some .boolean) 1 := ⟨(inW (List.mem_of_getElem? (i := 307) (by decide +kernel)) rfl), (inW (List.mem_of_getElem? (i := 309) (by decide +kernel)) rfl), (inW (List.mem_of_getElem? (i := 31) (by decide +kernel)) rfl), ⟨by decide +kernel, by decide +kernel, by decide +kernel⟩, (inW (List.mem_of_getElem? (i := 308) (by decide +kernel)) rfl)⟩
theorem kcl_X4_43 : Cond.constantLong RX4 43 (68719476735) ∈ lwT := (inW (List.mem_of_getElem? (i := 318) (by decide +kernel)) rfl)
theorem fr_X4_9 : FR RX4 9 3 0 := ⟨_, rfl, by decide, by decide, Or.inl (inW (List.mem_of_getElem? (i := 106) (by decide +kernel)) rfl)⟩
theorem sf_3_0 {o : Nat} (h : shp o = 3) : shp (rf o 0) = 10 := (by decide +kernel : ∀ o, o < 174 → shp o = 3 → shp (rf o 0) = 10) o (shp_lt (by omega)) h
theorem kcl_X4_39 : Cond.constantLong RX4 39 (-1) ∈ lwT := (inW (List.mem_of_getElem? (i := 319) (by decide +kernel)) rfl)
theorem ms_X3_39 : MS RX3 39 yX3_has cX3_has 3 (some .boolean) 2 := ⟨(inW (List.mem_of_getElem? (i := 448) (by decide +kernel)) rfl), (inW (List.mem_of_getElem? (i := 421) (by decide +kernel)) rfl), (inW (List.mem_of_getElem? (i := 37) (by decide +kernel)) rfl), ⟨by decide +kernel, by decide +kernel, by decide +kernel⟩, (inW (List.mem_of_getElem? (i := 420) (by decide +kernel)) rfl)⟩
theorem aw_X4_25 : AW RX4 25 := ⟨(inW (List.mem_of_getElem? (i := 295) (by decide +kernel)) rfl), (inW (List.mem_of_getElem? (i := 286) (by decide +kernel)) rfl), (inW (List.mem_of_getElem? (i := 285) (by decide +kernel)) rfl), (inW (List.mem_of_getElem? (i := 38) (by decide +kernel)) rfl)⟩
theorem fr_X4_15 : FR RX4 15 3 1 := ⟨_, rfl, by decide, by decide, Or.inl (inW (List.mem_of_getElem? (i := 107) (by decide +kernel)) rfl)⟩
theorem sf_3_1 {o : Nat} (h : shp o = 3) : shp (rf o 1) = 9 := (by decide +kernel : ∀ o, o < 174 → shp o = 3 → shp (rf o 1) = 9) o (shp_lt (by omega)) h
theorem fr_X4_31 : FR RX4 31 3 2 := ⟨_, rfl, by decide, by decide, Or.inl (inW (List.mem_of_getElem? (i := 108) (by decide +kernel)) rfl)⟩
theorem pt_3_2 : PT 3 2 .int := fun q h => by cases h; exact ⟨by decide +kernel, rfl⟩
theorem ms_X4_45 : MS RX4 45 yX3_has cX3_has 3 (some .boolean) 2 := ⟨(inW (List.mem_of_getElem? (i := 419) (by decide +kernel)) rfl), (inW (List.mem_of_getElem? (i := 421) (by decide +kernel)) rfl), (inW (List.mem_of_getElem? (i := 37) (by decide +kernel)) rfl), ⟨by decide +kernel, by decide +kernel, by decide +kernel⟩, (inW (List.mem_of_getElem? (i := 420) (by decide +kernel)) rfl)⟩
theorem mv_X4_49 : MV RX4 49 3 yX4_holderOf cX4_holderOf 3 (some .int) 1 := ⟨by decide, ⟨_, rfl, rfl⟩, (inW (List.mem_of_getElem? (i := 500) (by decide +kernel)) rfl), (inW (List.mem_of_getElem? (i := 418) (by decide +kernel)) rfl), (inW (List.mem_of_getElem? (i := 31) (by decide +kernel)) rfl), ⟨by decide +kernel, by decide +kernel, by decide +kernel⟩, (inW (List.mem_of_getElem? (i := 416) (by decide +kernel)) rfl), (inW (List.mem_of_getElem? (i := 417) (by decide +kernel)) rfl)⟩
theorem kcl_X3_19 : Cond.constantLong RX3 19 (68719476735) ∈ lwT := (inW (List.mem_of_getElem? (i := 455) (by decide +kernel)) rfl)
theorem kcl_X3_21 : Cond.constantLong RX3 21 (-1090785346) ∈ lwT := (inW (List.mem_of_getElem? (i := 456) (by decide +kernel)) rfl)
theorem ms_X3_23 : MS RX3 23 yX3_right cX3_right 2 (some .long) 1 := ⟨(inW (List.mem_of_getElem? (i := 452) (by decide +kernel)) rfl), (inW (List.mem_of_getElem? (i := 454) (by decide +kernel)) rfl), (inW (List.mem_of_getElem? (i := 37) (by decide +kernel)) rfl), ⟨by decide +kernel, by decide +kernel, by decide +kernel⟩, (inW (List.mem_of_getElem? (i := 453) (by decide +kernel)) rfl)⟩
theorem ms_X3_49 : MS RX3 49 yX3_left cX3_left 2 (some .long) 1 := ⟨(inW (List.mem_of_getElem? (i := 457) (by decide +kernel)) rfl), (inW (List.mem_of_getElem? (i := 459) (by decide +kernel)) rfl), (inW (List.mem_of_getElem? (i := 37) (by decide +kernel)) rfl), ⟨by decide +kernel, by decide +kernel, by decide +kernel⟩, (inW (List.mem_of_getElem? (i := 458) (by decide +kernel)) rfl)⟩
theorem ms_X3_33 : MS RX3 33 yX3_down cX3_down 2 (some .long) 1 := ⟨(inW (List.mem_of_getElem? (i := 460) (by decide +kernel)) rfl), (inW (List.mem_of_getElem? (i := 462) (by decide +kernel)) rfl), (inW (List.mem_of_getElem? (i := 37) (by decide +kernel)) rfl), ⟨by decide +kernel, by decide +kernel, by decide +kernel⟩, (inW (List.mem_of_getElem? (i := 461) (by decide +kernel)) rfl)⟩
theorem ms_X3_52 : MS RX3 52 yX3_up cX3_up 2 (some .long) 1 := ⟨(inW (List.mem_of_getElem? (i := 463) (by decide +kernel)) rfl), (inW (List.mem_of_getElem? (i := 465) (by decide +kernel)) rfl), (inW (List.mem_of_getElem? (i := 37) (by decide +kernel)) rfl), ⟨by decide +kernel, by decide +kernel, by decide +kernel⟩, (inW (List.mem_of_getElem? (i := 464) (by decide +kernel)) rfl)⟩
theorem kcl_X3_11 : Cond.constantLong RX3 11 (-68719476736) ∈ lwT := (inW (List.mem_of_getElem? (i := 261) (by decide +kernel)) rfl)
theorem ms_X3_27 : MS RX3 27 yJ13_bitCount_95d88 cJ13_bitCount_95d88 2 (some .int) 1 := ⟨(inW (List.mem_of_getElem? (i := 470) (by decide +kernel)) rfl), (inW (List.mem_of_getElem? (i := 391) (by decide +kernel)) rfl), (inW (List.mem_of_getElem? (i := 39) (by decide +kernel)) rfl), ⟨by decide +kernel, by decide +kernel, by decide +kernel⟩, (inW (List.mem_of_getElem? (i := 390) (by decide +kernel)) rfl)⟩
theorem ms_X3_43 : MS RX3 43 yX3_heapFrom cX3_heapFrom 8 (some .long) 2 := ⟨(inW (List.mem_of_getElem? (i := 449) (by decide +kernel)) rfl), (inW (List.mem_of_getElem? (i := 451) (by decide +kernel)) rfl), (inW (List.mem_of_getElem? (i := 37) (by decide +kernel)) rfl), ⟨by decide +kernel, by decide +kernel, by decide +kernel⟩, (inW (List.mem_of_getElem? (i := 450) (by decide +kernel)) rfl)⟩
theorem kcl_X3_47 : Cond.constantLong RX3 47 (-1) ∈ lwT := (inW (List.mem_of_getElem? (i := 466) (by decide +kernel)) rfl)
theorem ms_X3_36 : MS RX3 36 yX3_pairsWithin cX3_pairsWithin 2 (some .int) 1 := ⟨(inW (List.mem_of_getElem? (i := 471) (by decide +kernel)) rfl), (inW (List.mem_of_getElem? (i := 473) (by decide +kernel)) rfl), (inW (List.mem_of_getElem? (i := 37) (by decide +kernel)) rfl), ⟨by decide +kernel, by decide +kernel, by decide +kernel⟩, (inW (List.mem_of_getElem? (i := 472) (by decide +kernel)) rfl)⟩
theorem mv_X4_53 : MV RX4 53 3 yX4_heldBy cX4_heldBy 5 (some .long) 1 := ⟨by decide, ⟨_, rfl, rfl⟩, (inW (List.mem_of_getElem? (i := 509) (by decide +kernel)) rfl), (inW (List.mem_of_getElem? (i := 317) (by decide +kernel)) rfl), (inW (List.mem_of_getElem? (i := 31) (by decide +kernel)) rfl), ⟨by decide +kernel, by decide +kernel, by decide +kernel⟩, (inW (List.mem_of_getElem? (i := 315) (by decide +kernel)) rfl), (inW (List.mem_of_getElem? (i := 316) (by decide +kernel)) rfl)⟩
theorem ms_X4_57 : MS RX4 57 yX3_pairsWithin cX3_pairsWithin 2 (some .int) 1 := ⟨(inW (List.mem_of_getElem? (i := 510) (by decide +kernel)) rfl), (inW (List.mem_of_getElem? (i := 473) (by decide +kernel)) rfl), (inW (List.mem_of_getElem? (i := 37) (by decide +kernel)) rfl), ⟨by decide +kernel, by decide +kernel, by decide +kernel⟩, (inW (List.mem_of_getElem? (i := 472) (by decide +kernel)) rfl)⟩
theorem fr_X5_19 : FR RX5 19 4 2 := ⟨_, rfl, by decide, by decide, Or.inl (inW (List.mem_of_getElem? (i := 185) (by decide +kernel)) rfl)⟩
theorem fr_X5_15 : FR RX5 15 4 1 := ⟨_, rfl, by decide, by decide, Or.inl (inW (List.mem_of_getElem? (i := 183) (by decide +kernel)) rfl)⟩
theorem pt_4_1 : PT 4 1 .int := fun q h => by cases h; exact ⟨by decide +kernel, rfl⟩
theorem pt_4_2 : PT 4 2 .int := fun q h => by cases h; exact ⟨by decide +kernel, rfl⟩
theorem fr_X5_9 : FR RX5 9 4 0 := ⟨_, rfl, by decide, by decide, Or.inl (inW (List.mem_of_getElem? (i := 181) (by decide +kernel)) rfl)⟩
theorem sf_4_0 {o : Nat} (h : shp o = 4) : shp (rf o 0) = 9 := (by decide +kernel : ∀ o, o < 174 → shp o = 4 → shp (rf o 0) = 9) o (shp_lt (by omega)) h
theorem ms_X5_22 : MS RX5 22 yJ7_fill_53178 cJ7_fill_53178 4 none 2 := ⟨(inW (List.mem_of_getElem? (i := 642) (by decide +kernel)) rfl), (inW (List.mem_of_getElem? (i := 105) (by decide +kernel)) rfl), (inW (List.mem_of_getElem? (i := 32) (by decide +kernel)) rfl), ⟨by decide +kernel, by decide +kernel, by decide +kernel⟩, (inW (List.mem_of_getElem? (i := 104) (by decide +kernel)) rfl)⟩
theorem fr_X1_9 : FR RX1 9 1 0 := ⟨_, rfl, by decide, by decide, Or.inl (inW (List.mem_of_getElem? (i := 168) (by decide +kernel)) rfl)⟩
theorem sf_1_0 {o : Nat} (h : shp o = 1) : shp (rf o 0) = 10 := (by decide +kernel : ∀ o, o < 174 → shp o = 1 → shp (rf o 0) = 10) o (shp_lt (by omega)) h
theorem mv_X1_31 : MV RX1 31 3 yX4_heldBy cX4_heldBy 5 (some .long) 1 := ⟨by decide, ⟨_, rfl, rfl⟩, (inW (List.mem_of_getElem? (i := 567) (by decide +kernel)) rfl), (inW (List.mem_of_getElem? (i := 317) (by decide +kernel)) rfl), (inW (List.mem_of_getElem? (i := 31) (by decide +kernel)) rfl), ⟨by decide +kernel, by decide +kernel, by decide +kernel⟩, (inW (List.mem_of_getElem? (i := 315) (by decide +kernel)) rfl), (inW (List.mem_of_getElem? (i := 316) (by decide +kernel)) rfl)⟩
theorem mv_X1_37 : MV RX1 37 1 yX1_rightCells cX1_rightCells 5 (some .long) 1 := ⟨by decide, ⟨_, rfl, rfl⟩, (inW (List.mem_of_getElem? (i := 563) (by decide +kernel)) rfl), (inW (List.mem_of_getElem? (i := 566) (by decide +kernel)) rfl), (inW (List.mem_of_getElem? (i := 34) (by decide +kernel)) rfl), ⟨by decide +kernel, by decide +kernel, by decide +kernel⟩, (inW (List.mem_of_getElem? (i := 565) (by decide +kernel)) rfl), (inW (List.mem_of_getElem? (i := 9) (by decide +kernel)) rfl)⟩
theorem ms_X1_25 : MS RX1 25 yJ13_bitCount_95d88 cJ13_bitCount_95d88 2 (some .int) 1 := ⟨(inW (List.mem_of_getElem? (i := 558) (by decide +kernel)) rfl), (inW (List.mem_of_getElem? (i := 391) (by decide +kernel)) rfl), (inW (List.mem_of_getElem? (i := 39) (by decide +kernel)) rfl), ⟨by decide +kernel, by decide +kernel, by decide +kernel⟩, (inW (List.mem_of_getElem? (i := 390) (by decide +kernel)) rfl)⟩
theorem mv_X1_21 : MV RX1 21 1 yX1_claimedCells cX1_claimedCells 4 (some .long) 0 := ⟨by decide, ⟨_, rfl, rfl⟩, (inW (List.mem_of_getElem? (i := 557) (by decide +kernel)) rfl), (inW (List.mem_of_getElem? (i := 542) (by decide +kernel)) rfl), (inW (List.mem_of_getElem? (i := 34) (by decide +kernel)) rfl), ⟨by decide +kernel, by decide +kernel, by decide +kernel⟩, (inW (List.mem_of_getElem? (i := 540) (by decide +kernel)) rfl), (inW (List.mem_of_getElem? (i := 541) (by decide +kernel)) rfl)⟩
theorem kcl_X1_19 : Cond.constantLong RX1 19 (-1) ∈ lwT := (inW (List.mem_of_getElem? (i := 548) (by decide +kernel)) rfl)
theorem ms_X1_41 : MS RX1 41 yX3_firstOf cX3_firstOf 3 (some .int) 1 := ⟨(inW (List.mem_of_getElem? (i := 572) (by decide +kernel)) rfl), (inW (List.mem_of_getElem? (i := 574) (by decide +kernel)) rfl), (inW (List.mem_of_getElem? (i := 37) (by decide +kernel)) rfl), ⟨by decide +kernel, by decide +kernel, by decide +kernel⟩, (inW (List.mem_of_getElem? (i := 573) (by decide +kernel)) rfl)⟩
theorem fr_X6_21 : FR RX6 21 5 3 := ⟨_, rfl, by decide, by decide, Or.inl (inW (List.mem_of_getElem? (i := 148) (by decide +kernel)) rfl)⟩
theorem mv_X6_25 : MV RX6 25 5 yX6_isFull cX6_isFull 1 (some .boolean) 0 := ⟨by decide, ⟨_, rfl, rfl⟩, (inW (List.mem_of_getElem? (i := 605) (by decide +kernel)) rfl), (inW (List.mem_of_getElem? (i := 600) (by decide +kernel)) rfl), (inW (List.mem_of_getElem? (i := 33) (by decide +kernel)) rfl), ⟨by decide +kernel, by decide +kernel, by decide +kernel⟩, (inW (List.mem_of_getElem? (i := 598) (by decide +kernel)) rfl), (inW (List.mem_of_getElem? (i := 599) (by decide +kernel)) rfl)⟩
theorem fr_X6_9 : FR RX6 9 5 0 := ⟨_, rfl, by decide, by decide, Or.inl (inW (List.mem_of_getElem? (i := 145) (by decide +kernel)) rfl)⟩
theorem sf_5_0 {o : Nat} (h : shp o = 5) : shp (rf o 0) = 9 := (by decide +kernel : ∀ o, o < 174 → shp o = 5 → shp (rf o 0) = 9) o (shp_lt (by omega)) h
theorem fr_X6_15 : FR RX6 15 5 1 := ⟨_, rfl, by decide, by decide, Or.inl (inW (List.mem_of_getElem? (i := 146) (by decide +kernel)) rfl)⟩
theorem sf_5_1 {o : Nat} (h : shp o = 5) : shp (rf o 1) = 9 := (by decide +kernel : ∀ o, o < 174 → shp o = 5 → shp (rf o 1) = 9) o (shp_lt (by omega)) h
theorem fr_X6_18 : FR RX6 18 5 2 := ⟨_, rfl, by decide, by decide, Or.inl (inW (List.mem_of_getElem? (i := 147) (by decide +kernel)) rfl)⟩
theorem sf_5_2 {o : Nat} (h : shp o = 5) : shp (rf o 2) = 9 := (by decide +kernel : ∀ o, o < 174 → shp o = 5 → shp (rf o 2) = 9) o (shp_lt (by omega)) h
theorem pt_5_3 : PT 5 3 .int := fun q h => by cases h; exact ⟨by decide +kernel, rfl⟩
theorem mv_X6_33 : MV RX6 33 3 yX4_heldBy cX4_heldBy 5 (some .long) 1 := ⟨by decide, ⟨_, rfl, rfl⟩, (inW (List.mem_of_getElem? (i := 614) (by decide +kernel)) rfl), (inW (List.mem_of_getElem? (i := 317) (by decide +kernel)) rfl), (inW (List.mem_of_getElem? (i := 31) (by decide +kernel)) rfl), ⟨by decide +kernel, by decide +kernel, by decide +kernel⟩, (inW (List.mem_of_getElem? (i := 315) (by decide +kernel)) rfl), (inW (List.mem_of_getElem? (i := 316) (by decide +kernel)) rfl)⟩
theorem mv_X6_29 : MV RX6 29 5 yX6_standsFor cX6_standsFor 4 (some .boolean) 2 := ⟨by decide, ⟨_, rfl, rfl⟩, (inW (List.mem_of_getElem? (i := 615) (by decide +kernel)) rfl), (inW (List.mem_of_getElem? (i := 618) (by decide +kernel)) rfl), (inW (List.mem_of_getElem? (i := 33) (by decide +kernel)) rfl), ⟨by decide +kernel, by decide +kernel, by decide +kernel⟩, (inW (List.mem_of_getElem? (i := 617) (by decide +kernel)) rfl), (inW (List.mem_of_getElem? (i := 11) (by decide +kernel)) rfl)⟩
theorem ms_X6_39 : MS RX6 39 yJ13_bitCount_95d88 cJ13_bitCount_95d88 2 (some .int) 1 := ⟨(inW (List.mem_of_getElem? (i := 619) (by decide +kernel)) rfl), (inW (List.mem_of_getElem? (i := 391) (by decide +kernel)) rfl), (inW (List.mem_of_getElem? (i := 39) (by decide +kernel)) rfl), ⟨by decide +kernel, by decide +kernel, by decide +kernel⟩, (inW (List.mem_of_getElem? (i := 390) (by decide +kernel)) rfl)⟩
theorem ms_X6_45 : MS RX6 45 yX6_greatestDivisor cX6_greatestDivisor 11 (some .long) 2 := ⟨(inW (List.mem_of_getElem? (i := 620) (by decide +kernel)) rfl), (inW (List.mem_of_getElem? (i := 622) (by decide +kernel)) rfl), (inW (List.mem_of_getElem? (i := 33) (by decide +kernel)) rfl), ⟨by decide +kernel, by decide +kernel, by decide +kernel⟩, (inW (List.mem_of_getElem? (i := 621) (by decide +kernel)) rfl)⟩
theorem fr_X2_48 : FR RX2 48 2 5 := ⟨_, rfl, by decide, by decide, Or.inl (inW (List.mem_of_getElem? (i := 124) (by decide +kernel)) rfl)⟩
theorem fr_X2_17 : FR RX2 17 2 1 := ⟨_, rfl, by decide, by decide, Or.inl (inW (List.mem_of_getElem? (i := 118) (by decide +kernel)) rfl)⟩
theorem sf_2_1 {o : Nat} (h : shp o = 2) : shp (rf o 1) = 12 := (by decide +kernel : ∀ o, o < 174 → shp o = 2 → shp (rf o 1) = 12) o (shp_lt (by omega)) h
theorem mv_X2_135 : MV RX2 135 2 yX2_hasAct cX2_hasAct 2 (some .boolean) 1 := ⟨by decide, ⟨_, rfl, rfl⟩, (inW (List.mem_of_getElem? (i := 340) (by decide +kernel)) rfl), (inW (List.mem_of_getElem? (i := 343) (by decide +kernel)) rfl), (inW (List.mem_of_getElem? (i := 29) (by decide +kernel)) rfl), ⟨by decide +kernel, by decide +kernel, by decide +kernel⟩, (inW (List.mem_of_getElem? (i := 341) (by decide +kernel)) rfl), (inW (List.mem_of_getElem? (i := 342) (by decide +kernel)) rfl)⟩
theorem sa_12 {q i : Nat} (h : shp q = 12) (hi : i < ln q) : shp (ra q i) = 0 := (by decide +kernel : ∀ q, q < 174 → shp q = 12 → ∀ i, i < ln q → shp (ra q i) = 0) q (shp_lt (by omega)) h i hi
theorem fr_X2_21 : FR RX2 21 2 2 := ⟨_, rfl, by decide, by decide, Or.inl (inW (List.mem_of_getElem? (i := 120) (by decide +kernel)) rfl)⟩
theorem sf_2_2 {o : Nat} (h : shp o = 2) : shp (rf o 2) = 9 := (by decide +kernel : ∀ o, o < 174 → shp o = 2 → shp (rf o 2) = 9) o (shp_lt (by omega)) h
theorem fr_X2_32 : FR RX2 32 2 4 := ⟨_, rfl, by decide, by decide, Or.inl (inW (List.mem_of_getElem? (i := 122) (by decide +kernel)) rfl)⟩
theorem mv_X2_36 : MV RX2 36 2 yX2_hasAllUnits cX2_hasAllUnits 1 (some .boolean) 0 := ⟨by decide, ⟨_, rfl, rfl⟩, (inW (List.mem_of_getElem? (i := 231) (by decide +kernel)) rfl), (inW (List.mem_of_getElem? (i := 225) (by decide +kernel)) rfl), (inW (List.mem_of_getElem? (i := 29) (by decide +kernel)) rfl), ⟨by decide +kernel, by decide +kernel, by decide +kernel⟩, (inW (List.mem_of_getElem? (i := 223) (by decide +kernel)) rfl), (inW (List.mem_of_getElem? (i := 224) (by decide +kernel)) rfl)⟩
theorem fr_X2_9 : FR RX2 9 2 0 := ⟨_, rfl, by decide, by decide, Or.inl (inW (List.mem_of_getElem? (i := 117) (by decide +kernel)) rfl)⟩
theorem sf_2_0 {o : Nat} (h : shp o = 2) : shp (rf o 0) = 9 := (by decide +kernel : ∀ o, o < 174 → shp o = 2 → shp (rf o 0) = 9) o (shp_lt (by omega)) h
theorem pt_2_4 : PT 2 4 .int := fun q h => by cases h; exact ⟨by decide +kernel, rfl⟩
theorem fr_X2_63 : FR RX2 63 0 1 := ⟨_, rfl, by decide, by decide, Or.inr ⟨"ShireLines", inN (List.mem_of_getElem? (i := 68) (by decide +kernel)) rfl⟩⟩
theorem fr_X2_57 : FR RX2 57 0 2 := ⟨_, rfl, by decide, by decide, Or.inr ⟨"ShireLines", inN (List.mem_of_getElem? (i := 70) (by decide +kernel)) rfl⟩⟩
theorem mv_X2_116 : MV RX2 116 3 yX4_isThere cX4_isThere 2 (some .boolean) 1 := ⟨by decide, ⟨_, rfl, rfl⟩, (inW (List.mem_of_getElem? (i := 303) (by decide +kernel)) rfl), (inW (List.mem_of_getElem? (i := 306) (by decide +kernel)) rfl), (inW (List.mem_of_getElem? (i := 31) (by decide +kernel)) rfl), ⟨by decide +kernel, by decide +kernel, by decide +kernel⟩, (inW (List.mem_of_getElem? (i := 304) (by decide +kernel)) rfl), (inW (List.mem_of_getElem? (i := 305) (by decide +kernel)) rfl)⟩
theorem mv_X2_119 : MV RX2 119 3 yX4_arrive cX4_arrive 2 none 1 := ⟨by decide, ⟨_, rfl, rfl⟩, (inW (List.mem_of_getElem? (i := 310) (by decide +kernel)) rfl), (inW (List.mem_of_getElem? (i := 313) (by decide +kernel)) rfl), (inW (List.mem_of_getElem? (i := 31) (by decide +kernel)) rfl), ⟨by decide +kernel, by decide +kernel, by decide +kernel⟩, (inW (List.mem_of_getElem? (i := 311) (by decide +kernel)) rfl), (inW (List.mem_of_getElem? (i := 312) (by decide +kernel)) rfl)⟩
theorem fr_X2_66 : FR RX2 66 0 4 := ⟨_, rfl, by decide, by decide, Or.inr ⟨"ShireLines", inN (List.mem_of_getElem? (i := 73) (by decide +kernel)) rfl⟩⟩
theorem mv_X2_122 : MV RX2 122 3 yX4_heldBy cX4_heldBy 5 (some .long) 1 := ⟨by decide, ⟨_, rfl, rfl⟩, (inW (List.mem_of_getElem? (i := 314) (by decide +kernel)) rfl), (inW (List.mem_of_getElem? (i := 317) (by decide +kernel)) rfl), (inW (List.mem_of_getElem? (i := 31) (by decide +kernel)) rfl), ⟨by decide +kernel, by decide +kernel, by decide +kernel⟩, (inW (List.mem_of_getElem? (i := 315) (by decide +kernel)) rfl), (inW (List.mem_of_getElem? (i := 316) (by decide +kernel)) rfl)⟩
theorem kcl_X2_126 : Cond.constantLong RX2 126 (-1) ∈ lwT := (inW (List.mem_of_getElem? (i := 320) (by decide +kernel)) rfl)
theorem fr_X2_90 : FR RX2 90 0 7 := ⟨_, rfl, by decide, by decide, Or.inr ⟨"ShireLines", inN (List.mem_of_getElem? (i := 79) (by decide +kernel)) rfl⟩⟩
theorem pt_0_7 : PT 0 7 .long := fun q h => by cases h; exact ⟨by decide +kernel, rfl⟩
theorem mv_X2_128 : MV RX2 128 3 yX4_give cX4_give 5 none 2 := ⟨by decide, ⟨_, rfl, rfl⟩, (inW (List.mem_of_getElem? (i := 321) (by decide +kernel)) rfl), (inW (List.mem_of_getElem? (i := 324) (by decide +kernel)) rfl), (inW (List.mem_of_getElem? (i := 31) (by decide +kernel)) rfl), ⟨by decide +kernel, by decide +kernel, by decide +kernel⟩, (inW (List.mem_of_getElem? (i := 322) (by decide +kernel)) rfl), (inW (List.mem_of_getElem? (i := 323) (by decide +kernel)) rfl)⟩
theorem fr_X2_60 : FR RX2 60 0 3 := ⟨_, rfl, by decide, by decide, Or.inr ⟨"ShireLines", inN (List.mem_of_getElem? (i := 72) (by decide +kernel)) rfl⟩⟩
theorem mv_X2_40 : MV RX2 40 2 yX2_hasUnit cX2_hasUnit 2 (some .boolean) 1 := ⟨by decide, ⟨_, rfl, rfl⟩, (inW (List.mem_of_getElem? (i := 244) (by decide +kernel)) rfl), (inW (List.mem_of_getElem? (i := 239) (by decide +kernel)) rfl), (inW (List.mem_of_getElem? (i := 29) (by decide +kernel)) rfl), ⟨by decide +kernel, by decide +kernel, by decide +kernel⟩, (inW (List.mem_of_getElem? (i := 237) (by decide +kernel)) rfl), (inW (List.mem_of_getElem? (i := 238) (by decide +kernel)) rfl)⟩
theorem mv_X2_44 : MV RX2 44 2 yX2_kindOf cX2_kindOf 2 (some .int) 1 := ⟨by decide, ⟨_, rfl, rfl⟩, (inW (List.mem_of_getElem? (i := 266) (by decide +kernel)) rfl), (inW (List.mem_of_getElem? (i := 243) (by decide +kernel)) rfl), (inW (List.mem_of_getElem? (i := 29) (by decide +kernel)) rfl), ⟨by decide +kernel, by decide +kernel, by decide +kernel⟩, (inW (List.mem_of_getElem? (i := 241) (by decide +kernel)) rfl), (inW (List.mem_of_getElem? (i := 242) (by decide +kernel)) rfl)⟩
theorem mv_X2_132 : MV RX2 132 3 yX4_leave cX4_leave 2 none 1 := ⟨by decide, ⟨_, rfl, rfl⟩, (inW (List.mem_of_getElem? (i := 332) (by decide +kernel)) rfl), (inW (List.mem_of_getElem? (i := 335) (by decide +kernel)) rfl), (inW (List.mem_of_getElem? (i := 31) (by decide +kernel)) rfl), ⟨by decide +kernel, by decide +kernel, by decide +kernel⟩, (inW (List.mem_of_getElem? (i := 333) (by decide +kernel)) rfl), (inW (List.mem_of_getElem? (i := 334) (by decide +kernel)) rfl)⟩
theorem fr_X2_26 : FR RX2 26 2 3 := ⟨_, rfl, by decide, by decide, Or.inl (inW (List.mem_of_getElem? (i := 121) (by decide +kernel)) rfl)⟩
theorem sf_2_3 {o : Nat} (h : shp o = 2) : shp (rf o 3) = 13 := (by decide +kernel : ∀ o, o < 174 → shp o = 2 → shp (rf o 3) = 13) o (shp_lt (by omega)) h
theorem fr_X2_83 : FR RX2 83 0 5 := ⟨_, rfl, by decide, by decide, Or.inr ⟨"ShireLines", inN (List.mem_of_getElem? (i := 75) (by decide +kernel)) rfl⟩⟩
theorem sa_13 {q i : Nat} (h : shp q = 13) (hi : i < ln q) : shp (ra q i) = 3 := (by decide +kernel : ∀ q, q < 174 → shp q = 13 → ∀ i, i < ln q → shp (ra q i) = 3) q (shp_lt (by omega)) h i hi
theorem mv_X2_138 : MV RX2 138 0 yX0_receiver cX0_receiver 1 (some .int) 0 := ⟨by decide, ⟨_, rfl, rfl⟩, (inW (List.mem_of_getElem? (i := 344) (by decide +kernel)) rfl), (inW (List.mem_of_getElem? (i := 347) (by decide +kernel)) rfl), (inW (List.mem_of_getElem? (i := 30) (by decide +kernel)) rfl), ⟨by decide +kernel, by decide +kernel, by decide +kernel⟩, (inW (List.mem_of_getElem? (i := 345) (by decide +kernel)) rfl), (inW (List.mem_of_getElem? (i := 346) (by decide +kernel)) rfl)⟩
theorem mv_X2_142 : MV RX2 142 3 yX4_putUnder cX4_putUnder 3 none 2 := ⟨by decide, ⟨_, rfl, rfl⟩, (inW (List.mem_of_getElem? (i := 351) (by decide +kernel)) rfl), (inW (List.mem_of_getElem? (i := 354) (by decide +kernel)) rfl), (inW (List.mem_of_getElem? (i := 31) (by decide +kernel)) rfl), ⟨by decide +kernel, by decide +kernel, by decide +kernel⟩, (inW (List.mem_of_getElem? (i := 352) (by decide +kernel)) rfl), (inW (List.mem_of_getElem? (i := 353) (by decide +kernel)) rfl)⟩
theorem fr_X2_54 : FR RX2 54 0 0 := ⟨_, rfl, by decide, by decide, Or.inr ⟨"ShireLines", inN (List.mem_of_getElem? (i := 65) (by decide +kernel)) rfl⟩⟩
theorem ms_X2_101 : MS RX2 101 yX2_performFound cX2_performFound 2 (some .boolean) 2 := ⟨(inW (List.mem_of_getElem? (i := 300) (by decide +kernel)) rfl), (inW (List.mem_of_getElem? (i := 302) (by decide +kernel)) rfl), (inW (List.mem_of_getElem? (i := 29) (by decide +kernel)) rfl), ⟨by decide +kernel, by decide +kernel, by decide +kernel⟩, (inW (List.mem_of_getElem? (i := 301) (by decide +kernel)) rfl)⟩
theorem ms_X2_104 : MS RX2 104 yX2_performMove cX2_performMove 4 (some .boolean) 2 := ⟨(inW (List.mem_of_getElem? (i := 325) (by decide +kernel)) rfl), (inW (List.mem_of_getElem? (i := 327) (by decide +kernel)) rfl), (inW (List.mem_of_getElem? (i := 29) (by decide +kernel)) rfl), ⟨by decide +kernel, by decide +kernel, by decide +kernel⟩, (inW (List.mem_of_getElem? (i := 326) (by decide +kernel)) rfl)⟩
theorem mv_X2_107 : MV RX2 107 2 yX2_performSwallow cX2_performSwallow 3 (some .boolean) 2 := ⟨by decide, ⟨_, rfl, rfl⟩, (inW (List.mem_of_getElem? (i := 328) (by decide +kernel)) rfl), (inW (List.mem_of_getElem? (i := 331) (by decide +kernel)) rfl), (inW (List.mem_of_getElem? (i := 29) (by decide +kernel)) rfl), ⟨by decide +kernel, by decide +kernel, by decide +kernel⟩, (inW (List.mem_of_getElem? (i := 330) (by decide +kernel)) rfl), (inW (List.mem_of_getElem? (i := 5) (by decide +kernel)) rfl)⟩
theorem mv_X2_110 : MV RX2 110 2 yX2_performBack cX2_performBack 10 (some .boolean) 2 := ⟨by decide, ⟨_, rfl, rfl⟩, (inW (List.mem_of_getElem? (i := 336) (by decide +kernel)) rfl), (inW (List.mem_of_getElem? (i := 339) (by decide +kernel)) rfl), (inW (List.mem_of_getElem? (i := 29) (by decide +kernel)) rfl), ⟨by decide +kernel, by decide +kernel, by decide +kernel⟩, (inW (List.mem_of_getElem? (i := 338) (by decide +kernel)) rfl), (inW (List.mem_of_getElem? (i := 6) (by decide +kernel)) rfl)⟩
theorem ms_X2_113 : MS RX2 113 yX2_performJoin cX2_performJoin 2 (some .boolean) 2 := ⟨(inW (List.mem_of_getElem? (i := 348) (by decide +kernel)) rfl), (inW (List.mem_of_getElem? (i := 350) (by decide +kernel)) rfl), (inW (List.mem_of_getElem? (i := 29) (by decide +kernel)) rfl), ⟨by decide +kernel, by decide +kernel, by decide +kernel⟩, (inW (List.mem_of_getElem? (i := 349) (by decide +kernel)) rfl)⟩
theorem mv_X2_86 : MV RX2 86 3 yX4_becomeLike cX4_becomeLike 2 none 1 := ⟨by decide, ⟨_, rfl, rfl⟩, (inW (List.mem_of_getElem? (i := 291) (by decide +kernel)) rfl), (inW (List.mem_of_getElem? (i := 294) (by decide +kernel)) rfl), (inW (List.mem_of_getElem? (i := 31) (by decide +kernel)) rfl), ⟨by decide +kernel, by decide +kernel, by decide +kernel⟩, (inW (List.mem_of_getElem? (i := 292) (by decide +kernel)) rfl), (inW (List.mem_of_getElem? (i := 293) (by decide +kernel)) rfl)⟩
theorem pt_0_5 : PT 0 5 .int := fun q h => by cases h; exact ⟨by decide +kernel, rfl⟩
theorem mv_X2_93 : MV RX2 93 2 yX2_perform cX2_perform 3 (some .boolean) 2 := ⟨by decide, ⟨_, rfl, rfl⟩, (inW (List.mem_of_getElem? (i := 296) (by decide +kernel)) rfl), (inW (List.mem_of_getElem? (i := 299) (by decide +kernel)) rfl), (inW (List.mem_of_getElem? (i := 29) (by decide +kernel)) rfl), ⟨by decide +kernel, by decide +kernel, by decide +kernel⟩, (inW (List.mem_of_getElem? (i := 298) (by decide +kernel)) rfl), (inW (List.mem_of_getElem? (i := 4) (by decide +kernel)) rfl)⟩
theorem fr_X2_97 : FR RX2 97 0 6 := ⟨_, rfl, by decide, by decide, Or.inr ⟨"ShireLines", inN (List.mem_of_getElem? (i := 77) (by decide +kernel)) rfl⟩⟩
theorem pt_0_6 : PT 0 6 .boolean := fun q h => by cases h; exact ⟨by decide +kernel, rfl⟩
theorem pt_2_5 : PT 2 5 .int := fun q h => by cases h; exact ⟨by decide +kernel, rfl⟩
theorem aw_X2_73 : AW RX2 73 := ⟨(inW (List.mem_of_getElem? (i := 284) (by decide +kernel)) rfl), (inW (List.mem_of_getElem? (i := 286) (by decide +kernel)) rfl), (inW (List.mem_of_getElem? (i := 285) (by decide +kernel)) rfl), (inW (List.mem_of_getElem? (i := 38) (by decide +kernel)) rfl)⟩
theorem mv_X2_79 : MV RX2 79 2 yX2_redoFrom cX2_redoFrom 5 none 1 := ⟨by decide, ⟨_, rfl, rfl⟩, (inW (List.mem_of_getElem? (i := 287) (by decide +kernel)) rfl), (inW (List.mem_of_getElem? (i := 290) (by decide +kernel)) rfl), (inW (List.mem_of_getElem? (i := 29) (by decide +kernel)) rfl), ⟨by decide +kernel, by decide +kernel, by decide +kernel⟩, (inW (List.mem_of_getElem? (i := 289) (by decide +kernel)) rfl), (inW (List.mem_of_getElem? (i := 3) (by decide +kernel)) rfl)⟩
theorem mv_X2_70 : MV RX2 70 2 yX2_doneUpTo cX2_doneUpTo 4 (some .int) 1 := ⟨by decide, ⟨_, rfl, rfl⟩, (inW (List.mem_of_getElem? (i := 280) (by decide +kernel)) rfl), (inW (List.mem_of_getElem? (i := 283) (by decide +kernel)) rfl), (inW (List.mem_of_getElem? (i := 29) (by decide +kernel)) rfl), ⟨by decide +kernel, by decide +kernel, by decide +kernel⟩, (inW (List.mem_of_getElem? (i := 282) (by decide +kernel)) rfl), (inW (List.mem_of_getElem? (i := 2) (by decide +kernel)) rfl)⟩
theorem mv_X2_146 : MV RX2 146 2 yX2_momentAt cX2_momentAt 2 (some (.object "ShireLines$Moment")) 1 := ⟨by decide, ⟨_, rfl, rfl⟩, (inW (List.mem_of_getElem? (i := 435) (by decide +kernel)) rfl), (inW (List.mem_of_getElem? (i := 414) (by decide +kernel)) rfl), (inW (List.mem_of_getElem? (i := 29) (by decide +kernel)) rfl), ⟨by decide +kernel, by decide +kernel, by decide +kernel⟩, (inW (List.mem_of_getElem? (i := 412) (by decide +kernel)) rfl), (inW (List.mem_of_getElem? (i := 413) (by decide +kernel)) rfl)⟩
theorem mv_X2_150 : MV RX2 150 2 yX2_isHundred cX2_isHundred 2 (some .boolean) 1 := ⟨by decide, ⟨_, rfl, rfl⟩, (inW (List.mem_of_getElem? (i := 436) (by decide +kernel)) rfl), (inW (List.mem_of_getElem? (i := 265) (by decide +kernel)) rfl), (inW (List.mem_of_getElem? (i := 29) (by decide +kernel)) rfl), ⟨by decide +kernel, by decide +kernel, by decide +kernel⟩, (inW (List.mem_of_getElem? (i := 263) (by decide +kernel)) rfl), (inW (List.mem_of_getElem? (i := 264) (by decide +kernel)) rfl)⟩
theorem mv_X2_153 : MV RX2 153 3 yX4_heldUnder cX4_heldUnder 5 (some .long) 1 := ⟨by decide, ⟨_, rfl, rfl⟩, (inW (List.mem_of_getElem? (i := 437) (by decide +kernel)) rfl), (inW (List.mem_of_getElem? (i := 440) (by decide +kernel)) rfl), (inW (List.mem_of_getElem? (i := 31) (by decide +kernel)) rfl), ⟨by decide +kernel, by decide +kernel, by decide +kernel⟩, (inW (List.mem_of_getElem? (i := 438) (by decide +kernel)) rfl), (inW (List.mem_of_getElem? (i := 439) (by decide +kernel)) rfl)⟩
theorem mv_X2_160 : MV RX2 160 2 yX2_actAt cX2_actAt 2 (some (.object "ShireLines$Act")) 1 := ⟨by decide, ⟨_, rfl, rfl⟩, (inW (List.mem_of_getElem? (i := 519) (by decide +kernel)) rfl), (inW (List.mem_of_getElem? (i := 522) (by decide +kernel)) rfl), (inW (List.mem_of_getElem? (i := 29) (by decide +kernel)) rfl), ⟨by decide +kernel, by decide +kernel, by decide +kernel⟩, (inW (List.mem_of_getElem? (i := 520) (by decide +kernel)) rfl), (inW (List.mem_of_getElem? (i := 521) (by decide +kernel)) rfl)⟩
theorem mv_X2_164 : MV RX2 164 2 yX2_heldAt cX2_heldAt 4 (some .long) 2 := ⟨by decide, ⟨_, rfl, rfl⟩, (inW (List.mem_of_getElem? (i := 523) (by decide +kernel)) rfl), (inW (List.mem_of_getElem? (i := 434) (by decide +kernel)) rfl), (inW (List.mem_of_getElem? (i := 29) (by decide +kernel)) rfl), ⟨by decide +kernel, by decide +kernel, by decide +kernel⟩, (inW (List.mem_of_getElem? (i := 432) (by decide +kernel)) rfl), (inW (List.mem_of_getElem? (i := 433) (by decide +kernel)) rfl)⟩
theorem mv_X2_156 : MV RX2 156 3 yX4_hasBorder cX4_hasBorder 3 (some .boolean) 2 := ⟨by decide, ⟨_, rfl, rfl⟩, (inW (List.mem_of_getElem? (i := 496) (by decide +kernel)) rfl), (inW (List.mem_of_getElem? (i := 499) (by decide +kernel)) rfl), (inW (List.mem_of_getElem? (i := 31) (by decide +kernel)) rfl), ⟨by decide +kernel, by decide +kernel, by decide +kernel⟩, (inW (List.mem_of_getElem? (i := 497) (by decide +kernel)) rfl), (inW (List.mem_of_getElem? (i := 498) (by decide +kernel)) rfl)⟩
theorem mv_X2_51 : MV RX2 51 2 yX2_hasAllActs cX2_hasAllActs 1 (some .boolean) 0 := ⟨by decide, ⟨_, rfl, rfl⟩, (inW (List.mem_of_getElem? (i := 279) (by decide +kernel)) rfl), (inW (List.mem_of_getElem? (i := 274) (by decide +kernel)) rfl), (inW (List.mem_of_getElem? (i := 29) (by decide +kernel)) rfl), ⟨by decide +kernel, by decide +kernel, by decide +kernel⟩, (inW (List.mem_of_getElem? (i := 272) (by decide +kernel)) rfl), (inW (List.mem_of_getElem? (i := 273) (by decide +kernel)) rfl)⟩
theorem pt_0_0 : PT 0 0 .int := fun q h => by cases h; exact ⟨by decide +kernel, rfl⟩
theorem pt_0_2 : PT 0 2 .int := fun q h => by cases h; exact ⟨by decide +kernel, rfl⟩
theorem pt_0_3 : PT 0 3 .int := fun q h => by cases h; exact ⟨by decide +kernel, rfl⟩
theorem pt_0_1 : PT 0 1 .int := fun q h => by cases h; exact ⟨by decide +kernel, rfl⟩
theorem pt_0_4 : PT 0 4 .long := fun q h => by cases h; exact ⟨by decide +kernel, rfl⟩
theorem fr_X7_277 : FR RX7 277 6 4 := ⟨_, rfl, by decide, by decide, Or.inl (inW (List.mem_of_getElem? (i := 198) (by decide +kernel)) rfl)⟩
theorem pt_6_4 : PT 6 4 .int := fun q h => by cases h; exact ⟨by decide +kernel, rfl⟩
theorem fr_X7_12 : FR RX7 12 6 0 := ⟨_, rfl, by decide, by decide, Or.inl (inW (List.mem_of_getElem? (i := 194) (by decide +kernel)) rfl)⟩
theorem sf_6_0 {o : Nat} (h : shp o = 6) : shp (rf o 0) = 2 := (by decide +kernel : ∀ o, o < 174 → shp o = 6 → shp (rf o 0) = 2) o (shp_lt (by omega)) h
theorem mv_X7_90 : MV RX7 90 2 yX2_hasAct cX2_hasAct 2 (some .boolean) 1 := ⟨by decide, ⟨_, rfl, rfl⟩, (inW (List.mem_of_getElem? (i := 373) (by decide +kernel)) rfl), (inW (List.mem_of_getElem? (i := 343) (by decide +kernel)) rfl), (inW (List.mem_of_getElem? (i := 29) (by decide +kernel)) rfl), ⟨by decide +kernel, by decide +kernel, by decide +kernel⟩, (inW (List.mem_of_getElem? (i := 341) (by decide +kernel)) rfl), (inW (List.mem_of_getElem? (i := 342) (by decide +kernel)) rfl)⟩
theorem kcl_X7_41 : Cond.constantLong RX7 41 (-1000000000000000001) ∈ lwT := (inW (List.mem_of_getElem? (i := 217) (by decide +kernel)) rfl)
theorem mv_X7_43 : MV RX7 43 6 yX7_refuse cX7_refuse 3 (some .long) 1 := ⟨by decide, ⟨_, rfl, rfl⟩, (inW (List.mem_of_getElem? (i := 218) (by decide +kernel)) rfl), (inW (List.mem_of_getElem? (i := 221) (by decide +kernel)) rfl), (inW (List.mem_of_getElem? (i := 28) (by decide +kernel)) rfl), ⟨by decide +kernel, by decide +kernel, by decide +kernel⟩, (inW (List.mem_of_getElem? (i := 220) (by decide +kernel)) rfl), (inW (List.mem_of_getElem? (i := 0) (by decide +kernel)) rfl)⟩
theorem fr_X7_93 : FR RX7 93 2 1 := ⟨_, rfl, by decide, by decide, Or.inr ⟨"ShireLines", inN (List.mem_of_getElem? (i := 119) (by decide +kernel)) rfl⟩⟩
theorem fr_X7_106 : FR RX7 106 0 0 := ⟨_, rfl, by decide, by decide, Or.inr ⟨"ShireLines", inN (List.mem_of_getElem? (i := 66) (by decide +kernel)) rfl⟩⟩
theorem fr_X7_97 : FR RX7 97 0 1 := ⟨_, rfl, by decide, by decide, Or.inr ⟨"ShireLines", inN (List.mem_of_getElem? (i := 67) (by decide +kernel)) rfl⟩⟩
theorem fr_X7_109 : FR RX7 109 0 6 := ⟨_, rfl, by decide, by decide, Or.inr ⟨"ShireLines", inN (List.mem_of_getElem? (i := 76) (by decide +kernel)) rfl⟩⟩
theorem ms_X7_113 : MS RX7 113 yX7_oneIf cX7_oneIf 1 (some .long) 1 := ⟨(inW (List.mem_of_getElem? (i := 386) (by decide +kernel)) rfl), (inW (List.mem_of_getElem? (i := 388) (by decide +kernel)) rfl), (inW (List.mem_of_getElem? (i := 28) (by decide +kernel)) rfl), ⟨by decide +kernel, by decide +kernel, by decide +kernel⟩, (inW (List.mem_of_getElem? (i := 387) (by decide +kernel)) rfl)⟩
theorem fr_X7_117 : FR RX7 117 0 7 := ⟨_, rfl, by decide, by decide, Or.inr ⟨"ShireLines", inN (List.mem_of_getElem? (i := 78) (by decide +kernel)) rfl⟩⟩
theorem ms_X7_121 : MS RX7 121 yJ13_bitCount_95d88 cJ13_bitCount_95d88 2 (some .int) 1 := ⟨(inW (List.mem_of_getElem? (i := 389) (by decide +kernel)) rfl), (inW (List.mem_of_getElem? (i := 391) (by decide +kernel)) rfl), (inW (List.mem_of_getElem? (i := 39) (by decide +kernel)) rfl), ⟨by decide +kernel, by decide +kernel, by decide +kernel⟩, (inW (List.mem_of_getElem? (i := 390) (by decide +kernel)) rfl)⟩
theorem fr_X7_127 : FR RX7 127 0 5 := ⟨_, rfl, by decide, by decide, Or.inr ⟨"ShireLines", inN (List.mem_of_getElem? (i := 74) (by decide +kernel)) rfl⟩⟩
theorem ms_X7_37 : MS RX7 37 yX7_isKind cX7_isKind 1 (some .boolean) 1 := ⟨(inW (List.mem_of_getElem? (i := 214) (by decide +kernel)) rfl), (inW (List.mem_of_getElem? (i := 216) (by decide +kernel)) rfl), (inW (List.mem_of_getElem? (i := 28) (by decide +kernel)) rfl), ⟨by decide +kernel, by decide +kernel, by decide +kernel⟩, (inW (List.mem_of_getElem? (i := 215) (by decide +kernel)) rfl)⟩
theorem gs_X7_291 : Cond.fieldLink RX7 291 "ShireLines" "KIND_OVER" "[I" ∈ lwT := (inW (List.mem_of_getElem? (i := 248) (by decide +kernel)) rfl)
theorem mv_X7_57 : MV RX7 57 2 yX2_hasUnit cX2_hasUnit 2 (some .boolean) 1 := ⟨by decide, ⟨_, rfl, rfl⟩, (inW (List.mem_of_getElem? (i := 236) (by decide +kernel)) rfl), (inW (List.mem_of_getElem? (i := 239) (by decide +kernel)) rfl), (inW (List.mem_of_getElem? (i := 29) (by decide +kernel)) rfl), ⟨by decide +kernel, by decide +kernel, by decide +kernel⟩, (inW (List.mem_of_getElem? (i := 237) (by decide +kernel)) rfl), (inW (List.mem_of_getElem? (i := 238) (by decide +kernel)) rfl)⟩
theorem mv_X7_60 : MV RX7 60 2 yX2_kindOf cX2_kindOf 2 (some .int) 1 := ⟨by decide, ⟨_, rfl, rfl⟩, (inW (List.mem_of_getElem? (i := 240) (by decide +kernel)) rfl), (inW (List.mem_of_getElem? (i := 243) (by decide +kernel)) rfl), (inW (List.mem_of_getElem? (i := 29) (by decide +kernel)) rfl), ⟨by decide +kernel, by decide +kernel, by decide +kernel⟩, (inW (List.mem_of_getElem? (i := 241) (by decide +kernel)) rfl), (inW (List.mem_of_getElem? (i := 242) (by decide +kernel)) rfl)⟩
theorem ms_X7_63 : MS RX7 63 yX7_isOrUnder cX7_isOrUnder 4 (some .boolean) 2 := ⟨(inW (List.mem_of_getElem? (i := 245) (by decide +kernel)) rfl), (inW (List.mem_of_getElem? (i := 247) (by decide +kernel)) rfl), (inW (List.mem_of_getElem? (i := 28) (by decide +kernel)) rfl), ⟨by decide +kernel, by decide +kernel, by decide +kernel⟩, (inW (List.mem_of_getElem? (i := 246) (by decide +kernel)) rfl)⟩
theorem kcl_X7_67 : Cond.constantLong RX7 67 (-1000000000000000004) ∈ lwT := (inW (List.mem_of_getElem? (i := 250) (by decide +kernel)) rfl)
theorem mv_X7_280 : MV RX7 280 2 yX2_hasAllActs cX2_hasAllActs 1 (some .boolean) 0 := ⟨by decide, ⟨_, rfl, rfl⟩, (inW (List.mem_of_getElem? (i := 271) (by decide +kernel)) rfl), (inW (List.mem_of_getElem? (i := 274) (by decide +kernel)) rfl), (inW (List.mem_of_getElem? (i := 29) (by decide +kernel)) rfl), ⟨by decide +kernel, by decide +kernel, by decide +kernel⟩, (inW (List.mem_of_getElem? (i := 272) (by decide +kernel)) rfl), (inW (List.mem_of_getElem? (i := 273) (by decide +kernel)) rfl)⟩
theorem mv_X7_283 : MV RX7 283 2 yX2_tell cX2_tell 10 (some .int) 5 := ⟨by decide, ⟨_, rfl, rfl⟩, (inW (List.mem_of_getElem? (i := 275) (by decide +kernel)) rfl), (inW (List.mem_of_getElem? (i := 278) (by decide +kernel)) rfl), (inW (List.mem_of_getElem? (i := 29) (by decide +kernel)) rfl), ⟨by decide +kernel, by decide +kernel, by decide +kernel⟩, (inW (List.mem_of_getElem? (i := 276) (by decide +kernel)) rfl), (inW (List.mem_of_getElem? (i := 277) (by decide +kernel)) rfl)⟩
theorem kcl_X7_51 : Cond.constantLong RX7 51 (-1000000000000000005) ∈ lwT := (inW (List.mem_of_getElem? (i := 226) (by decide +kernel)) rfl)
theorem ms_X7_69 : MS RX7 69 yX7_isYear cX7_isYear 1 (some .boolean) 1 := ⟨(inW (List.mem_of_getElem? (i := 255) (by decide +kernel)) rfl), (inW (List.mem_of_getElem? (i := 257) (by decide +kernel)) rfl), (inW (List.mem_of_getElem? (i := 28) (by decide +kernel)) rfl), ⟨by decide +kernel, by decide +kernel, by decide +kernel⟩, (inW (List.mem_of_getElem? (i := 256) (by decide +kernel)) rfl)⟩
theorem mv_X7_103 : MV RX7 103 0 yX0_canBeTurnedBack cX0_canBeTurnedBack 1 (some .boolean) 0 := ⟨by decide, ⟨_, rfl, rfl⟩, (inW (List.mem_of_getElem? (i := 374) (by decide +kernel)) rfl), (inW (List.mem_of_getElem? (i := 377) (by decide +kernel)) rfl), (inW (List.mem_of_getElem? (i := 30) (by decide +kernel)) rfl), ⟨by decide +kernel, by decide +kernel, by decide +kernel⟩, (inW (List.mem_of_getElem? (i := 375) (by decide +kernel)) rfl), (inW (List.mem_of_getElem? (i := 376) (by decide +kernel)) rfl)⟩
theorem mv_X7_81 : MV RX7 81 6 yX7_tellAct cX7_tellAct 7 (some .long) 5 := ⟨by decide, ⟨_, rfl, rfl⟩, (inW (List.mem_of_getElem? (i := 267) (by decide +kernel)) rfl), (inW (List.mem_of_getElem? (i := 270) (by decide +kernel)) rfl), (inW (List.mem_of_getElem? (i := 28) (by decide +kernel)) rfl), ⟨by decide +kernel, by decide +kernel, by decide +kernel⟩, (inW (List.mem_of_getElem? (i := 269) (by decide +kernel)) rfl), (inW (List.mem_of_getElem? (i := 1) (by decide +kernel)) rfl)⟩
theorem mv_X7_141 : MV RX7 141 2 yX2_momentAt cX2_momentAt 2 (some (.object "ShireLines$Moment")) 1 := ⟨by decide, ⟨_, rfl, rfl⟩, (inW (List.mem_of_getElem? (i := 411) (by decide +kernel)) rfl), (inW (List.mem_of_getElem? (i := 414) (by decide +kernel)) rfl), (inW (List.mem_of_getElem? (i := 29) (by decide +kernel)) rfl), ⟨by decide +kernel, by decide +kernel, by decide +kernel⟩, (inW (List.mem_of_getElem? (i := 412) (by decide +kernel)) rfl), (inW (List.mem_of_getElem? (i := 413) (by decide +kernel)) rfl)⟩
theorem mv_X7_205 : MV RX7 205 1 yX1_agreement cX1_agreement 2 (some .int) 1 := ⟨by decide, ⟨_, rfl, rfl⟩, (inW (List.mem_of_getElem? (i := 559) (by decide +kernel)) rfl), (inW (List.mem_of_getElem? (i := 562) (by decide +kernel)) rfl), (inW (List.mem_of_getElem? (i := 34) (by decide +kernel)) rfl), ⟨by decide +kernel, by decide +kernel, by decide +kernel⟩, (inW (List.mem_of_getElem? (i := 560) (by decide +kernel)) rfl), (inW (List.mem_of_getElem? (i := 561) (by decide +kernel)) rfl)⟩
theorem fr_X7_130 : FR RX7 130 2 5 := ⟨_, rfl, by decide, by decide, Or.inr ⟨"ShireLines", inN (List.mem_of_getElem? (i := 125) (by decide +kernel)) rfl⟩⟩
theorem mv_X7_287 : MV RX7 287 2 yX2_actAt cX2_actAt 2 (some (.object "ShireLines$Act")) 1 := ⟨by decide, ⟨_, rfl, rfl⟩, (inW (List.mem_of_getElem? (i := 583) (by decide +kernel)) rfl), (inW (List.mem_of_getElem? (i := 522) (by decide +kernel)) rfl), (inW (List.mem_of_getElem? (i := 29) (by decide +kernel)) rfl), ⟨by decide +kernel, by decide +kernel, by decide +kernel⟩, (inW (List.mem_of_getElem? (i := 520) (by decide +kernel)) rfl), (inW (List.mem_of_getElem? (i := 521) (by decide +kernel)) rfl)⟩
theorem ms_X7_183 : MS RX7 183 yX7_isMap cX7_isMap 1 (some .boolean) 1 := ⟨(inW (List.mem_of_getElem? (i := 528) (by decide +kernel)) rfl), (inW (List.mem_of_getElem? (i := 530) (by decide +kernel)) rfl), (inW (List.mem_of_getElem? (i := 28) (by decide +kernel)) rfl), ⟨by decide +kernel, by decide +kernel, by decide +kernel⟩, (inW (List.mem_of_getElem? (i := 529) (by decide +kernel)) rfl)⟩
theorem fr_X7_25 : FR RX7 25 6 2 := ⟨_, rfl, by decide, by decide, Or.inl (inW (List.mem_of_getElem? (i := 196) (by decide +kernel)) rfl)⟩
theorem sf_6_2 {o : Nat} (h : shp o = 6) : shp (rf o 2) = 14 := (by decide +kernel : ∀ o, o < 174 → shp o = 6 → shp (rf o 2) = 14) o (shp_lt (by omega)) h
theorem sa_14 {q i : Nat} (h : shp q = 14) (hi : i < ln q) : shp (ra q i) = 1 := (by decide +kernel : ∀ q, q < 174 → shp q = 14 → ∀ i, i < ln q → shp (ra q i) = 1) q (shp_lt (by omega)) h i hi
theorem mv_X7_212 : MV RX7 212 6 yX7_bestYear cX7_bestYear 9 (some .int) 3 := ⟨by decide, ⟨_, rfl, rfl⟩, (inW (List.mem_of_getElem? (i := 579) (by decide +kernel)) rfl), (inW (List.mem_of_getElem? (i := 582) (by decide +kernel)) rfl), (inW (List.mem_of_getElem? (i := 28) (by decide +kernel)) rfl), ⟨by decide +kernel, by decide +kernel, by decide +kernel⟩, (inW (List.mem_of_getElem? (i := 581) (by decide +kernel)) rfl), (inW (List.mem_of_getElem? (i := 10) (by decide +kernel)) rfl)⟩
theorem mv_X7_175 : MV RX7 175 3 yX4_borderPairs cX4_borderPairs 3 (some .int) 0 := ⟨by decide, ⟨_, rfl, rfl⟩, (inW (List.mem_of_getElem? (i := 505) (by decide +kernel)) rfl), (inW (List.mem_of_getElem? (i := 508) (by decide +kernel)) rfl), (inW (List.mem_of_getElem? (i := 31) (by decide +kernel)) rfl), ⟨by decide +kernel, by decide +kernel, by decide +kernel⟩, (inW (List.mem_of_getElem? (i := 506) (by decide +kernel)) rfl), (inW (List.mem_of_getElem? (i := 507) (by decide +kernel)) rfl)⟩
theorem fr_X7_19 : FR RX7 19 6 1 := ⟨_, rfl, by decide, by decide, Or.inl (inW (List.mem_of_getElem? (i := 195) (by decide +kernel)) rfl)⟩
theorem sf_6_1 {o : Nat} (h : shp o = 6) : shp (rf o 1) = 5 := (by decide +kernel : ∀ o, o < 174 → shp o = 6 → shp (rf o 1) = 5) o (shp_lt (by omega)) h
theorem mv_X7_153 : MV RX7 153 2 yX2_heldAt cX2_heldAt 4 (some .long) 2 := ⟨by decide, ⟨_, rfl, rfl⟩, (inW (List.mem_of_getElem? (i := 431) (by decide +kernel)) rfl), (inW (List.mem_of_getElem? (i := 434) (by decide +kernel)) rfl), (inW (List.mem_of_getElem? (i := 29) (by decide +kernel)) rfl), ⟨by decide +kernel, by decide +kernel, by decide +kernel⟩, (inW (List.mem_of_getElem? (i := 432) (by decide +kernel)) rfl), (inW (List.mem_of_getElem? (i := 433) (by decide +kernel)) rfl)⟩
theorem mv_X7_227 : MV RX7 227 5 yX6_share cX6_share 17 (some .long) 4 := ⟨by decide, ⟨_, rfl, rfl⟩, (inW (List.mem_of_getElem? (i := 610) (by decide +kernel)) rfl), (inW (List.mem_of_getElem? (i := 613) (by decide +kernel)) rfl), (inW (List.mem_of_getElem? (i := 33) (by decide +kernel)) rfl), ⟨by decide +kernel, by decide +kernel, by decide +kernel⟩, (inW (List.mem_of_getElem? (i := 611) (by decide +kernel)) rfl), (inW (List.mem_of_getElem? (i := 612) (by decide +kernel)) rfl)⟩
theorem mv_X7_179 : MV RX7 179 2 yX2_firstChange cX2_firstChange 5 (some .int) 2 := ⟨by decide, ⟨_, rfl, rfl⟩, (inW (List.mem_of_getElem? (i := 515) (by decide +kernel)) rfl), (inW (List.mem_of_getElem? (i := 518) (by decide +kernel)) rfl), (inW (List.mem_of_getElem? (i := 29) (by decide +kernel)) rfl), ⟨by decide +kernel, by decide +kernel, by decide +kernel⟩, (inW (List.mem_of_getElem? (i := 516) (by decide +kernel)) rfl), (inW (List.mem_of_getElem? (i := 517) (by decide +kernel)) rfl)⟩
theorem kcl_X7_133 : Cond.constantLong RX7 133 (-1000000000000000006) ∈ lwT := (inW (List.mem_of_getElem? (i := 399) (by decide +kernel)) rfl)
theorem ms_X7_138 : MS RX7 138 yX3_isCell cX3_isCell 1 (some .boolean) 1 := ⟨(inW (List.mem_of_getElem? (i := 408) (by decide +kernel)) rfl), (inW (List.mem_of_getElem? (i := 410) (by decide +kernel)) rfl), (inW (List.mem_of_getElem? (i := 37) (by decide +kernel)) rfl), ⟨by decide +kernel, by decide +kernel, by decide +kernel⟩, (inW (List.mem_of_getElem? (i := 409) (by decide +kernel)) rfl)⟩
theorem mv_X7_187 : MV RX7 187 6 yX7_isClaim cX7_isClaim 2 (some .boolean) 1 := ⟨by decide, ⟨_, rfl, rfl⟩, (inW (List.mem_of_getElem? (i := 535) (by decide +kernel)) rfl), (inW (List.mem_of_getElem? (i := 538) (by decide +kernel)) rfl), (inW (List.mem_of_getElem? (i := 28) (by decide +kernel)) rfl), ⟨by decide +kernel, by decide +kernel, by decide +kernel⟩, (inW (List.mem_of_getElem? (i := 537) (by decide +kernel)) rfl), (inW (List.mem_of_getElem? (i := 8) (by decide +kernel)) rfl)⟩
theorem mv_X7_78 : MV RX7 78 2 yX2_isHundred cX2_isHundred 2 (some .boolean) 1 := ⟨by decide, ⟨_, rfl, rfl⟩, (inW (List.mem_of_getElem? (i := 262) (by decide +kernel)) rfl), (inW (List.mem_of_getElem? (i := 265) (by decide +kernel)) rfl), (inW (List.mem_of_getElem? (i := 29) (by decide +kernel)) rfl), ⟨by decide +kernel, by decide +kernel, by decide +kernel⟩, (inW (List.mem_of_getElem? (i := 263) (by decide +kernel)) rfl), (inW (List.mem_of_getElem? (i := 264) (by decide +kernel)) rfl)⟩
theorem mv_X7_190 : MV RX7 190 1 yX1_claimedCells cX1_claimedCells 4 (some .long) 0 := ⟨by decide, ⟨_, rfl, rfl⟩, (inW (List.mem_of_getElem? (i := 539) (by decide +kernel)) rfl), (inW (List.mem_of_getElem? (i := 542) (by decide +kernel)) rfl), (inW (List.mem_of_getElem? (i := 34) (by decide +kernel)) rfl), ⟨by decide +kernel, by decide +kernel, by decide +kernel⟩, (inW (List.mem_of_getElem? (i := 540) (by decide +kernel)) rfl), (inW (List.mem_of_getElem? (i := 541) (by decide +kernel)) rfl)⟩
theorem ms_X7_194 : MS RX7 194 yX3_has cX3_has 3 (some .boolean) 2 := ⟨(inW (List.mem_of_getElem? (i := 543) (by decide +kernel)) rfl), (inW (List.mem_of_getElem? (i := 421) (by decide +kernel)) rfl), (inW (List.mem_of_getElem? (i := 37) (by decide +kernel)) rfl), ⟨by decide +kernel, by decide +kernel, by decide +kernel⟩, (inW (List.mem_of_getElem? (i := 420) (by decide +kernel)) rfl)⟩
theorem mv_X7_198 : MV RX7 198 1 yX1_setClaim cX1_setClaim 6 none 2 := ⟨by decide, ⟨_, rfl, rfl⟩, (inW (List.mem_of_getElem? (i := 544) (by decide +kernel)) rfl), (inW (List.mem_of_getElem? (i := 547) (by decide +kernel)) rfl), (inW (List.mem_of_getElem? (i := 34) (by decide +kernel)) rfl), ⟨by decide +kernel, by decide +kernel, by decide +kernel⟩, (inW (List.mem_of_getElem? (i := 545) (by decide +kernel)) rfl), (inW (List.mem_of_getElem? (i := 546) (by decide +kernel)) rfl)⟩
theorem ms_X7_235 : MS RX7 235 yX7_isSheet cX7_isSheet 1 (some .boolean) 1 := ⟨(inW (List.mem_of_getElem? (i := 635) (by decide +kernel)) rfl), (inW (List.mem_of_getElem? (i := 637) (by decide +kernel)) rfl), (inW (List.mem_of_getElem? (i := 28) (by decide +kernel)) rfl), ⟨by decide +kernel, by decide +kernel, by decide +kernel⟩, (inW (List.mem_of_getElem? (i := 636) (by decide +kernel)) rfl)⟩
theorem fr_X7_31 : FR RX7 31 6 3 := ⟨_, rfl, by decide, by decide, Or.inl (inW (List.mem_of_getElem? (i := 197) (by decide +kernel)) rfl)⟩
theorem sf_6_3 {o : Nat} (h : shp o = 6) : shp (rf o 3) = 15 := (by decide +kernel : ∀ o, o < 174 → shp o = 6 → shp (rf o 3) = 15) o (shp_lt (by omega)) h
theorem sa_15 {q i : Nat} (h : shp q = 15) (hi : i < ln q) : shp (ra q i) = 4 := (by decide +kernel : ∀ q, q < 174 → shp q = 15 → ∀ i, i < ln q → shp (ra q i) = 4) q (shp_lt (by omega)) h i hi
theorem mv_X7_241 : MV RX7 241 4 yX5_isMissing cX5_isMissing 1 (some .boolean) 0 := ⟨by decide, ⟨_, rfl, rfl⟩, (inW (List.mem_of_getElem? (i := 647) (by decide +kernel)) rfl), (inW (List.mem_of_getElem? (i := 650) (by decide +kernel)) rfl), (inW (List.mem_of_getElem? (i := 35) (by decide +kernel)) rfl), ⟨by decide +kernel, by decide +kernel, by decide +kernel⟩, (inW (List.mem_of_getElem? (i := 648) (by decide +kernel)) rfl), (inW (List.mem_of_getElem? (i := 649) (by decide +kernel)) rfl)⟩
theorem fr_X7_256 : FR RX7 256 4 1 := ⟨_, rfl, by decide, by decide, Or.inr ⟨"ShireLines", inN (List.mem_of_getElem? (i := 184) (by decide +kernel)) rfl⟩⟩
theorem mv_X7_246 : MV RX7 246 4 yX5_hasRun cX5_hasRun 3 (some .boolean) 2 := ⟨by decide, ⟨_, rfl, rfl⟩, (inW (List.mem_of_getElem? (i := 652) (by decide +kernel)) rfl), (inW (List.mem_of_getElem? (i := 655) (by decide +kernel)) rfl), (inW (List.mem_of_getElem? (i := 35) (by decide +kernel)) rfl), ⟨by decide +kernel, by decide +kernel, by decide +kernel⟩, (inW (List.mem_of_getElem? (i := 653) (by decide +kernel)) rfl), (inW (List.mem_of_getElem? (i := 654) (by decide +kernel)) rfl)⟩
theorem fr_X7_249 : FR RX7 249 4 0 := ⟨_, rfl, by decide, by decide, Or.inr ⟨"ShireLines", inN (List.mem_of_getElem? (i := 182) (by decide +kernel)) rfl⟩⟩
theorem aw_X7_259 : AW RX7 259 := ⟨(inW (List.mem_of_getElem? (i := 664) (by decide +kernel)) rfl), (inW (List.mem_of_getElem? (i := 286) (by decide +kernel)) rfl), (inW (List.mem_of_getElem? (i := 285) (by decide +kernel)) rfl), (inW (List.mem_of_getElem? (i := 38) (by decide +kernel)) rfl)⟩
theorem kcl_X7_244 : Cond.constantLong RX7 244 (-1000000000000000002) ∈ lwT := (inW (List.mem_of_getElem? (i := 651) (by decide +kernel)) rfl)
theorem kci_X7_220 : Cond.constant RX7 220 (1000000) ∈ lwT := (inW (List.mem_of_getElem? (i := 596) (by decide +kernel)) rfl)
theorem mv_X7_221 : MV RX7 221 5 yX6_isFull cX6_isFull 1 (some .boolean) 0 := ⟨by decide, ⟨_, rfl, rfl⟩, (inW (List.mem_of_getElem? (i := 597) (by decide +kernel)) rfl), (inW (List.mem_of_getElem? (i := 600) (by decide +kernel)) rfl), (inW (List.mem_of_getElem? (i := 33) (by decide +kernel)) rfl), ⟨by decide +kernel, by decide +kernel, by decide +kernel⟩, (inW (List.mem_of_getElem? (i := 598) (by decide +kernel)) rfl), (inW (List.mem_of_getElem? (i := 599) (by decide +kernel)) rfl)⟩
theorem mv_X7_224 : MV RX7 224 5 yX6_add cX6_add 4 (some .int) 3 := ⟨by decide, ⟨_, rfl, rfl⟩, (inW (List.mem_of_getElem? (i := 601) (by decide +kernel)) rfl), (inW (List.mem_of_getElem? (i := 604) (by decide +kernel)) rfl), (inW (List.mem_of_getElem? (i := 33) (by decide +kernel)) rfl), ⟨by decide +kernel, by decide +kernel, by decide +kernel⟩, (inW (List.mem_of_getElem? (i := 602) (by decide +kernel)) rfl), (inW (List.mem_of_getElem? (i := 603) (by decide +kernel)) rfl)⟩
theorem ms_X7_72 : MS RX7 72 yX3_isSet cX3_isSet 2 (some .boolean) 1 := ⟨(inW (List.mem_of_getElem? (i := 258) (by decide +kernel)) rfl), (inW (List.mem_of_getElem? (i := 260) (by decide +kernel)) rfl), (inW (List.mem_of_getElem? (i := 37) (by decide +kernel)) rfl), ⟨by decide +kernel, by decide +kernel, by decide +kernel⟩, (inW (List.mem_of_getElem? (i := 259) (by decide +kernel)) rfl)⟩
theorem fr_X7_265 : FR RX7 265 4 2 := ⟨_, rfl, by decide, by decide, Or.inr ⟨"ShireLines", inN (List.mem_of_getElem? (i := 186) (by decide +kernel)) rfl⟩⟩
theorem mv_X7_267 : MV RX7 267 6 yX7_claimOf cX7_claimOf 2 (some .int) 1 := ⟨by decide, ⟨_, rfl, rfl⟩, (inW (List.mem_of_getElem? (i := 669) (by decide +kernel)) rfl), (inW (List.mem_of_getElem? (i := 672) (by decide +kernel)) rfl), (inW (List.mem_of_getElem? (i := 28) (by decide +kernel)) rfl), ⟨by decide +kernel, by decide +kernel, by decide +kernel⟩, (inW (List.mem_of_getElem? (i := 671) (by decide +kernel)) rfl), (inW (List.mem_of_getElem? (i := 12) (by decide +kernel)) rfl)⟩
theorem mv_X7_202 : MV RX7 202 1 yX1_size cX1_size 1 (some .int) 0 := ⟨by decide, ⟨_, rfl, rfl⟩, (inW (List.mem_of_getElem? (i := 553) (by decide +kernel)) rfl), (inW (List.mem_of_getElem? (i := 556) (by decide +kernel)) rfl), (inW (List.mem_of_getElem? (i := 34) (by decide +kernel)) rfl), ⟨by decide +kernel, by decide +kernel, by decide +kernel⟩, (inW (List.mem_of_getElem? (i := 554) (by decide +kernel)) rfl), (inW (List.mem_of_getElem? (i := 555) (by decide +kernel)) rfl)⟩
theorem ms_X7_166 : MS RX7 166 yX3_areBeside cX3_areBeside 3 (some .boolean) 2 := ⟨(inW (List.mem_of_getElem? (i := 486) (by decide +kernel)) rfl), (inW (List.mem_of_getElem? (i := 488) (by decide +kernel)) rfl), (inW (List.mem_of_getElem? (i := 37) (by decide +kernel)) rfl), ⟨by decide +kernel, by decide +kernel, by decide +kernel⟩, (inW (List.mem_of_getElem? (i := 487) (by decide +kernel)) rfl)⟩
theorem kcl_X7_169 : Cond.constantLong RX7 169 (-1000000000000000003) ∈ lwT := (inW (List.mem_of_getElem? (i := 363) (by decide +kernel)) rfl)
theorem mv_X7_171 : MV RX7 171 2 yX2_makerOfBorder cX2_makerOfBorder 6 (some .int) 3 := ⟨by decide, ⟨_, rfl, rfl⟩, (inW (List.mem_of_getElem? (i := 492) (by decide +kernel)) rfl), (inW (List.mem_of_getElem? (i := 495) (by decide +kernel)) rfl), (inW (List.mem_of_getElem? (i := 29) (by decide +kernel)) rfl), ⟨by decide +kernel, by decide +kernel, by decide +kernel⟩, (inW (List.mem_of_getElem? (i := 493) (by decide +kernel)) rfl), (inW (List.mem_of_getElem? (i := 494) (by decide +kernel)) rfl)⟩
theorem fr_X7_186 : FR RX7 186 1 1 := ⟨_, rfl, by decide, by decide, Or.inr ⟨"ShireLines", inN (List.mem_of_getElem? (i := 170) (by decide +kernel)) rfl⟩⟩
theorem pt_1_1 : PT 1 1 .int := fun q h => by cases h; exact ⟨by decide +kernel, rfl⟩
theorem mv_X7_85 : MV RX7 85 6 yX7_tellPassing cX7_tellPassing 7 (some .long) 5 := ⟨by decide, ⟨_, rfl, rfl⟩, (inW (List.mem_of_getElem? (i := 359) (by decide +kernel)) rfl), (inW (List.mem_of_getElem? (i := 362) (by decide +kernel)) rfl), (inW (List.mem_of_getElem? (i := 28) (by decide +kernel)) rfl), ⟨by decide +kernel, by decide +kernel, by decide +kernel⟩, (inW (List.mem_of_getElem? (i := 361) (by decide +kernel)) rfl), (inW (List.mem_of_getElem? (i := 7) (by decide +kernel)) rfl)⟩
theorem mv_X7_231 : MV RX7 231 5 yX6_sum cX6_sum 5 (some .long) 1 := ⟨by decide, ⟨_, rfl, rfl⟩, (inW (List.mem_of_getElem? (i := 627) (by decide +kernel)) rfl), (inW (List.mem_of_getElem? (i := 630) (by decide +kernel)) rfl), (inW (List.mem_of_getElem? (i := 33) (by decide +kernel)) rfl), ⟨by decide +kernel, by decide +kernel, by decide +kernel⟩, (inW (List.mem_of_getElem? (i := 628) (by decide +kernel)) rfl), (inW (List.mem_of_getElem? (i := 629) (by decide +kernel)) rfl)⟩
theorem mv_X7_253 : MV RX7 253 4 yX5_lowestBits cX5_lowestBits 2 (some .int) 1 := ⟨by decide, ⟨_, rfl, rfl⟩, (inW (List.mem_of_getElem? (i := 656) (by decide +kernel)) rfl), (inW (List.mem_of_getElem? (i := 659) (by decide +kernel)) rfl), (inW (List.mem_of_getElem? (i := 35) (by decide +kernel)) rfl), ⟨by decide +kernel, by decide +kernel, by decide +kernel⟩, (inW (List.mem_of_getElem? (i := 657) (by decide +kernel)) rfl), (inW (List.mem_of_getElem? (i := 658) (by decide +kernel)) rfl)⟩
theorem mv_X7_216 : MV RX7 216 1 yX1_firstQuarrel cX1_firstQuarrel 5 (some .int) 1 := ⟨by decide, ⟨_, rfl, rfl⟩, (inW (List.mem_of_getElem? (i := 588) (by decide +kernel)) rfl), (inW (List.mem_of_getElem? (i := 591) (by decide +kernel)) rfl), (inW (List.mem_of_getElem? (i := 34) (by decide +kernel)) rfl), ⟨by decide +kernel, by decide +kernel, by decide +kernel⟩, (inW (List.mem_of_getElem? (i := 589) (by decide +kernel)) rfl), (inW (List.mem_of_getElem? (i := 590) (by decide +kernel)) rfl)⟩
theorem mv_X7_209 : MV RX7 209 1 yX1_firstWrong cX1_firstWrong 2 (some .int) 1 := ⟨by decide, ⟨_, rfl, rfl⟩, (inW (List.mem_of_getElem? (i := 568) (by decide +kernel)) rfl), (inW (List.mem_of_getElem? (i := 571) (by decide +kernel)) rfl), (inW (List.mem_of_getElem? (i := 34) (by decide +kernel)) rfl), ⟨by decide +kernel, by decide +kernel, by decide +kernel⟩, (inW (List.mem_of_getElem? (i := 569) (by decide +kernel)) rfl), (inW (List.mem_of_getElem? (i := 570) (by decide +kernel)) rfl)⟩
theorem ms_X7_157 : MS RX7 157 yX3_pieces cX3_pieces 6 (some .int) 1 := ⟨(inW (List.mem_of_getElem? (i := 445) (by decide +kernel)) rfl), (inW (List.mem_of_getElem? (i := 447) (by decide +kernel)) rfl), (inW (List.mem_of_getElem? (i := 37) (by decide +kernel)) rfl), ⟨by decide +kernel, by decide +kernel, by decide +kernel⟩, (inW (List.mem_of_getElem? (i := 446) (by decide +kernel)) rfl)⟩
theorem ms_X7_160 : MS RX7 160 yX3_sides cX3_sides 2 (some .int) 1 := ⟨(inW (List.mem_of_getElem? (i := 467) (by decide +kernel)) rfl), (inW (List.mem_of_getElem? (i := 469) (by decide +kernel)) rfl), (inW (List.mem_of_getElem? (i := 37) (by decide +kernel)) rfl), ⟨by decide +kernel, by decide +kernel, by decide +kernel⟩, (inW (List.mem_of_getElem? (i := 468) (by decide +kernel)) rfl)⟩
theorem mv_X7_238 : MV RX7 238 4 yX5_renew cX5_renew 3 (some .int) 2 := ⟨by decide, ⟨_, rfl, rfl⟩, (inW (List.mem_of_getElem? (i := 638) (by decide +kernel)) rfl), (inW (List.mem_of_getElem? (i := 641) (by decide +kernel)) rfl), (inW (List.mem_of_getElem? (i := 35) (by decide +kernel)) rfl), ⟨by decide +kernel, by decide +kernel, by decide +kernel⟩, (inW (List.mem_of_getElem? (i := 639) (by decide +kernel)) rfl), (inW (List.mem_of_getElem? (i := 640) (by decide +kernel)) rfl)⟩
theorem kcl_X7_88 : Cond.constantLong RX7 88 (68719476735) ∈ lwT := (inW (List.mem_of_getElem? (i := 368) (by decide +kernel)) rfl)
theorem mv_X7_150 : MV RX7 150 3 yX4_isThere cX4_isThere 2 (some .boolean) 1 := ⟨by decide, ⟨_, rfl, rfl⟩, (inW (List.mem_of_getElem? (i := 426) (by decide +kernel)) rfl), (inW (List.mem_of_getElem? (i := 306) (by decide +kernel)) rfl), (inW (List.mem_of_getElem? (i := 31) (by decide +kernel)) rfl), ⟨by decide +kernel, by decide +kernel, by decide +kernel⟩, (inW (List.mem_of_getElem? (i := 304) (by decide +kernel)) rfl), (inW (List.mem_of_getElem? (i := 305) (by decide +kernel)) rfl)⟩
theorem fr_X7_270 : FR RX7 270 2 4 := ⟨_, rfl, by decide, by decide, Or.inr ⟨"ShireLines", inN (List.mem_of_getElem? (i := 123) (by decide +kernel)) rfl⟩⟩
theorem mv_X7_273 : MV RX7 273 2 yX2_voidActs cX2_voidActs 3 (some .int) 0 := ⟨by decide, ⟨_, rfl, rfl⟩, (inW (List.mem_of_getElem? (i := 677) (by decide +kernel)) rfl), (inW (List.mem_of_getElem? (i := 680) (by decide +kernel)) rfl), (inW (List.mem_of_getElem? (i := 29) (by decide +kernel)) rfl), ⟨by decide +kernel, by decide +kernel, by decide +kernel⟩, (inW (List.mem_of_getElem? (i := 678) (by decide +kernel)) rfl), (inW (List.mem_of_getElem? (i := 679) (by decide +kernel)) rfl)⟩
theorem fr_X7_276 : FR RX7 276 5 3 := ⟨_, rfl, by decide, by decide, Or.inr ⟨"ShireLines", inN (List.mem_of_getElem? (i := 149) (by decide +kernel)) rfl⟩⟩
theorem mv_X7_163 : MV RX7 163 3 yX4_hundredOver cX4_hundredOver 2 (some .int) 1 := ⟨by decide, ⟨_, rfl, rfl⟩, (inW (List.mem_of_getElem? (i := 478) (by decide +kernel)) rfl), (inW (List.mem_of_getElem? (i := 481) (by decide +kernel)) rfl), (inW (List.mem_of_getElem? (i := 31) (by decide +kernel)) rfl), ⟨by decide +kernel, by decide +kernel, by decide +kernel⟩, (inW (List.mem_of_getElem? (i := 479) (by decide +kernel)) rfl), (inW (List.mem_of_getElem? (i := 480) (by decide +kernel)) rfl)⟩
theorem mv_X7_47 : MV RX7 47 2 yX2_hasAllUnits cX2_hasAllUnits 1 (some .boolean) 0 := ⟨by decide, ⟨_, rfl, rfl⟩, (inW (List.mem_of_getElem? (i := 222) (by decide +kernel)) rfl), (inW (List.mem_of_getElem? (i := 225) (by decide +kernel)) rfl), (inW (List.mem_of_getElem? (i := 29) (by decide +kernel)) rfl), ⟨by decide +kernel, by decide +kernel, by decide +kernel⟩, (inW (List.mem_of_getElem? (i := 223) (by decide +kernel)) rfl), (inW (List.mem_of_getElem? (i := 224) (by decide +kernel)) rfl)⟩
theorem mv_X7_53 : MV RX7 53 2 yX2_addUnit cX2_addUnit 2 (some .int) 1 := ⟨by decide, ⟨_, rfl, rfl⟩, (inW (List.mem_of_getElem? (i := 227) (by decide +kernel)) rfl), (inW (List.mem_of_getElem? (i := 230) (by decide +kernel)) rfl), (inW (List.mem_of_getElem? (i := 29) (by decide +kernel)) rfl), ⟨by decide +kernel, by decide +kernel, by decide +kernel⟩, (inW (List.mem_of_getElem? (i := 228) (by decide +kernel)) rfl), (inW (List.mem_of_getElem? (i := 229) (by decide +kernel)) rfl)⟩
theorem mv_X7_135 : MV RX7 135 2 yX2_dropLatest cX2_dropLatest 2 none 0 := ⟨by decide, ⟨_, rfl, rfl⟩, (inW (List.mem_of_getElem? (i := 400) (by decide +kernel)) rfl), (inW (List.mem_of_getElem? (i := 403) (by decide +kernel)) rfl), (inW (List.mem_of_getElem? (i := 29) (by decide +kernel)) rfl), ⟨by decide +kernel, by decide +kernel, by decide +kernel⟩, (inW (List.mem_of_getElem? (i := 401) (by decide +kernel)) rfl), (inW (List.mem_of_getElem? (i := 402) (by decide +kernel)) rfl)⟩
theorem mv_X7_145 : MV RX7 145 3 yX4_holderOf cX4_holderOf 3 (some .int) 1 := ⟨by decide, ⟨_, rfl, rfl⟩, (inW (List.mem_of_getElem? (i := 415) (by decide +kernel)) rfl), (inW (List.mem_of_getElem? (i := 418) (by decide +kernel)) rfl), (inW (List.mem_of_getElem? (i := 31) (by decide +kernel)) rfl), ⟨by decide +kernel, by decide +kernel, by decide +kernel⟩, (inW (List.mem_of_getElem? (i := 416) (by decide +kernel)) rfl), (inW (List.mem_of_getElem? (i := 417) (by decide +kernel)) rfl)⟩
theorem fr_X8_78 : FR RX8 78 7 3 := ⟨_, rfl, by decide, by decide, Or.inl (inW (List.mem_of_getElem? (i := 690) (by decide +kernel)) rfl)⟩
theorem pt_7_3 : PT 7 3 .long := fun q h => by cases h; exact ⟨by decide +kernel, rfl⟩
theorem fr_X8_59 : FR RX8 59 7 20 := ⟨_, rfl, by decide, by decide, Or.inl (inW (List.mem_of_getElem? (i := 707) (by decide +kernel)) rfl)⟩
theorem sf_7_20 {o : Nat} (h : shp o = 7) : shp (rf o 20) = 9 := (by decide +kernel : ∀ o, o < 174 → shp o = 7 → shp (rf o 20) = 9) o (shp_lt (by omega)) h
theorem fr_X8_68 : FR RX8 68 7 23 := ⟨_, rfl, by decide, by decide, Or.inl (inW (List.mem_of_getElem? (i := 710) (by decide +kernel)) rfl)⟩
theorem sf_7_23 {o : Nat} (h : shp o = 7) : shp (rf o 23) = 11 := (by decide +kernel : ∀ o, o < 174 → shp o = 7 → shp (rf o 23) = 11) o (shp_lt (by omega)) h
theorem fr_X8_19 : FR RX8 19 7 7 := ⟨_, rfl, by decide, by decide, Or.inl (inW (List.mem_of_getElem? (i := 694) (by decide +kernel)) rfl)⟩
theorem sf_7_7 {o : Nat} (h : shp o = 7) : shp (rf o 7) = 9 := (by decide +kernel : ∀ o, o < 174 → shp o = 7 → shp (rf o 7) = 9) o (shp_lt (by omega)) h
theorem fr_X8_22 : FR RX8 22 7 8 := ⟨_, rfl, by decide, by decide, Or.inl (inW (List.mem_of_getElem? (i := 695) (by decide +kernel)) rfl)⟩
theorem sf_7_8 {o : Nat} (h : shp o = 7) : shp (rf o 8) = 9 := (by decide +kernel : ∀ o, o < 174 → shp o = 7 → shp (rf o 8) = 9) o (shp_lt (by omega)) h
theorem fr_X8_13 : FR RX8 13 7 5 := ⟨_, rfl, by decide, by decide, Or.inl (inW (List.mem_of_getElem? (i := 692) (by decide +kernel)) rfl)⟩
theorem sf_7_5 {o : Nat} (h : shp o = 7) : shp (rf o 5) = 9 := (by decide +kernel : ∀ o, o < 174 → shp o = 7 → shp (rf o 5) = 9) o (shp_lt (by omega)) h
theorem fr_X8_25 : FR RX8 25 7 9 := ⟨_, rfl, by decide, by decide, Or.inl (inW (List.mem_of_getElem? (i := 696) (by decide +kernel)) rfl)⟩
theorem sf_7_9 {o : Nat} (h : shp o = 7) : shp (rf o 9) = 10 := (by decide +kernel : ∀ o, o < 174 → shp o = 7 → shp (rf o 9) = 10) o (shp_lt (by omega)) h
theorem mv_X8_131 : MV RX8 131 7 yX8_gives cX8_gives 8 (some .int) 4 := ⟨by decide, ⟨_, rfl, rfl⟩, (inW (List.mem_of_getElem? (i := 837) (by decide +kernel)) rfl), (inW (List.mem_of_getElem? (i := 840) (by decide +kernel)) rfl), (inW (List.mem_of_getElem? (i := 36) (by decide +kernel)) rfl), ⟨by decide +kernel, by decide +kernel, by decide +kernel⟩, (inW (List.mem_of_getElem? (i := 839) (by decide +kernel)) rfl), (inW (List.mem_of_getElem? (i := 19) (by decide +kernel)) rfl)⟩
theorem fr_X8_9 : FR RX8 9 7 4 := ⟨_, rfl, by decide, by decide, Or.inl (inW (List.mem_of_getElem? (i := 691) (by decide +kernel)) rfl)⟩
theorem sf_7_4 {o : Nat} (h : shp o = 7) : shp (rf o 4) = 9 := (by decide +kernel : ∀ o, o < 174 → shp o = 7 → shp (rf o 4) = 9) o (shp_lt (by omega)) h
theorem kcl_X8_135 : Cond.constantLong RX8 135 (-1) ∈ lwT := (inW (List.mem_of_getElem? (i := 841) (by decide +kernel)) rfl)
theorem fr_X8_62 : FR RX8 62 7 21 := ⟨_, rfl, by decide, by decide, Or.inl (inW (List.mem_of_getElem? (i := 708) (by decide +kernel)) rfl)⟩
theorem sf_7_21 {o : Nat} (h : shp o = 7) : shp (rf o 21) = 9 := (by decide +kernel : ∀ o, o < 174 → shp o = 7 → shp (rf o 21) = 9) o (shp_lt (by omega)) h
theorem fr_X8_56 : FR RX8 56 7 19 := ⟨_, rfl, by decide, by decide, Or.inl (inW (List.mem_of_getElem? (i := 706) (by decide +kernel)) rfl)⟩
theorem sf_7_19 {o : Nat} (h : shp o = 7) : shp (rf o 19) = 9 := (by decide +kernel : ∀ o, o < 174 → shp o = 7 → shp (rf o 19) = 9) o (shp_lt (by omega)) h
theorem mv_X8_137 : MV RX8 137 7 yX8_turnsBack cX8_turnsBack 7 (some .boolean) 2 := ⟨by decide, ⟨_, rfl, rfl⟩, (inW (List.mem_of_getElem? (i := 842) (by decide +kernel)) rfl), (inW (List.mem_of_getElem? (i := 845) (by decide +kernel)) rfl), (inW (List.mem_of_getElem? (i := 36) (by decide +kernel)) rfl), ⟨by decide +kernel, by decide +kernel, by decide +kernel⟩, (inW (List.mem_of_getElem? (i := 844) (by decide +kernel)) rfl), (inW (List.mem_of_getElem? (i := 20) (by decide +kernel)) rfl)⟩
theorem fr_X8_112 : FR RX8 112 7 1 := ⟨_, rfl, by decide, by decide, Or.inl (inW (List.mem_of_getElem? (i := 688) (by decide +kernel)) rfl)⟩
theorem fr_X8_16 : FR RX8 16 7 6 := ⟨_, rfl, by decide, by decide, Or.inl (inW (List.mem_of_getElem? (i := 693) (by decide +kernel)) rfl)⟩
theorem sf_7_6 {o : Nat} (h : shp o = 7) : shp (rf o 6) = 9 := (by decide +kernel : ∀ o, o < 174 → shp o = 7 → shp (rf o 6) = 9) o (shp_lt (by omega)) h
theorem fr_X8_53 : FR RX8 53 7 18 := ⟨_, rfl, by decide, by decide, Or.inl (inW (List.mem_of_getElem? (i := 705) (by decide +kernel)) rfl)⟩
theorem sf_7_18 {o : Nat} (h : shp o = 7) : shp (rf o 18) = 9 := (by decide +kernel : ∀ o, o < 174 → shp o = 7 → shp (rf o 18) = 9) o (shp_lt (by omega)) h
theorem fr_X8_72 : FR RX8 72 7 24 := ⟨_, rfl, by decide, by decide, Or.inl (inW (List.mem_of_getElem? (i := 711) (by decide +kernel)) rfl)⟩
theorem sf_7_24 {o : Nat} (h : shp o = 7) : shp (rf o 24) = 11 := (by decide +kernel : ∀ o, o < 174 → shp o = 7 → shp (rf o 24) = 11) o (shp_lt (by omega)) h
theorem mv_X8_127 : MV RX8 127 7 yX8_does cX8_does 6 (some .boolean) 2 := ⟨by decide, ⟨_, rfl, rfl⟩, (inW (List.mem_of_getElem? (i := 833) (by decide +kernel)) rfl), (inW (List.mem_of_getElem? (i := 836) (by decide +kernel)) rfl), (inW (List.mem_of_getElem? (i := 36) (by decide +kernel)) rfl), ⟨by decide +kernel, by decide +kernel, by decide +kernel⟩, (inW (List.mem_of_getElem? (i := 835) (by decide +kernel)) rfl), (inW (List.mem_of_getElem? (i := 18) (by decide +kernel)) rfl)⟩
theorem fr_X8_65 : FR RX8 65 7 22 := ⟨_, rfl, by decide, by decide, Or.inl (inW (List.mem_of_getElem? (i := 709) (by decide +kernel)) rfl)⟩
theorem sf_7_22 {o : Nat} (h : shp o = 7) : shp (rf o 22) = 9 := (by decide +kernel : ∀ o, o < 174 → shp o = 7 → shp (rf o 22) = 9) o (shp_lt (by omega)) h
theorem ms_X8_86 : MS RX8 86 yX8_in cX8_in 6 (some .boolean) 3 := ⟨(inW (List.mem_of_getElem? (i := 772) (by decide +kernel)) rfl), (inW (List.mem_of_getElem? (i := 774) (by decide +kernel)) rfl), (inW (List.mem_of_getElem? (i := 36) (by decide +kernel)) rfl), ⟨by decide +kernel, by decide +kernel, by decide +kernel⟩, (inW (List.mem_of_getElem? (i := 773) (by decide +kernel)) rfl)⟩
theorem kcl_X8_98 : Cond.constantLong RX8 98 (-1000000000000000001) ∈ lwT := (inW (List.mem_of_getElem? (i := 775) (by decide +kernel)) rfl)
theorem mv_X8_100 : MV RX8 100 7 yX8_told0 cX8_told0 3 (some .long) 1 := ⟨by decide, ⟨_, rfl, rfl⟩, (inW (List.mem_of_getElem? (i := 776) (by decide +kernel)) rfl), (inW (List.mem_of_getElem? (i := 779) (by decide +kernel)) rfl), (inW (List.mem_of_getElem? (i := 36) (by decide +kernel)) rfl), ⟨by decide +kernel, by decide +kernel, by decide +kernel⟩, (inW (List.mem_of_getElem? (i := 778) (by decide +kernel)) rfl), (inW (List.mem_of_getElem? (i := 13) (by decide +kernel)) rfl)⟩
theorem kcl_X8_140 : Cond.constantLong RX8 140 (4) ∈ lwT := (inW (List.mem_of_getElem? (i := 828) (by decide +kernel)) rfl)
theorem mv_X8_142 : MV RX8 142 7 yX8_done cX8_done 4 none 0 := ⟨by decide, ⟨_, rfl, rfl⟩, (inW (List.mem_of_getElem? (i := 829) (by decide +kernel)) rfl), (inW (List.mem_of_getElem? (i := 832) (by decide +kernel)) rfl), (inW (List.mem_of_getElem? (i := 36) (by decide +kernel)) rfl), ⟨by decide +kernel, by decide +kernel, by decide +kernel⟩, (inW (List.mem_of_getElem? (i := 831) (by decide +kernel)) rfl), (inW (List.mem_of_getElem? (i := 17) (by decide +kernel)) rfl)⟩
theorem kcl_X8_104 : Cond.constantLong RX8 104 (-1000000000000000005) ∈ lwT := (inW (List.mem_of_getElem? (i := 780) (by decide +kernel)) rfl)
theorem pt_7_1 : PT 7 1 .int := fun q h => by cases h; exact ⟨by decide +kernel, rfl⟩
theorem fr_X8_32 : FR RX8 32 7 11 := ⟨_, rfl, by decide, by decide, Or.inl (inW (List.mem_of_getElem? (i := 698) (by decide +kernel)) rfl)⟩
theorem sf_7_11 {o : Nat} (h : shp o = 7) : shp (rf o 11) = 9 := (by decide +kernel : ∀ o, o < 174 → shp o = 7 → shp (rf o 11) = 9) o (shp_lt (by omega)) h
theorem kcl_X8_158 : Cond.constantLong RX8 158 (5) ∈ lwT := (inW (List.mem_of_getElem? (i := 892) (by decide +kernel)) rfl)
theorem ms_X8_164 : MS RX8 164 yX8_beside cX8_beside 4 (some .int) 2 := ⟨(inW (List.mem_of_getElem? (i := 889) (by decide +kernel)) rfl), (inW (List.mem_of_getElem? (i := 891) (by decide +kernel)) rfl), (inW (List.mem_of_getElem? (i := 36) (by decide +kernel)) rfl), ⟨by decide +kernel, by decide +kernel, by decide +kernel⟩, (inW (List.mem_of_getElem? (i := 890) (by decide +kernel)) rfl)⟩
theorem fr_X8_82 : FR RX8 82 7 0 := ⟨_, rfl, by decide, by decide, Or.inl (inW (List.mem_of_getElem? (i := 687) (by decide +kernel)) rfl)⟩
theorem mv_X8_106 : MV RX8 106 7 yX8_isUnit cX8_isUnit 2 (some .boolean) 1 := ⟨by decide, ⟨_, rfl, rfl⟩, (inW (List.mem_of_getElem? (i := 785) (by decide +kernel)) rfl), (inW (List.mem_of_getElem? (i := 788) (by decide +kernel)) rfl), (inW (List.mem_of_getElem? (i := 36) (by decide +kernel)) rfl), ⟨by decide +kernel, by decide +kernel, by decide +kernel⟩, (inW (List.mem_of_getElem? (i := 787) (by decide +kernel)) rfl), (inW (List.mem_of_getElem? (i := 14) (by decide +kernel)) rfl)⟩
theorem kcl_X8_96 : Cond.constantLong RX8 96 (3) ∈ lwT := (inW (List.mem_of_getElem? (i := 771) (by decide +kernel)) rfl)
theorem kcl_X8_110 : Cond.constantLong RX8 110 (-1000000000000000004) ∈ lwT := (inW (List.mem_of_getElem? (i := 789) (by decide +kernel)) rfl)
theorem kcl_X8_90 : Cond.constantLong RX8 90 (1000) ∈ lwT := (inW (List.mem_of_getElem? (i := 797) (by decide +kernel)) rfl)
theorem kcl_X8_92 : Cond.constantLong RX8 92 (1999) ∈ lwT := (inW (List.mem_of_getElem? (i := 798) (by decide +kernel)) rfl)
theorem ms_X8_115 : MS RX8 115 yX8_isYear cX8_isYear 1 (some .boolean) 1 := ⟨(inW (List.mem_of_getElem? (i := 794) (by decide +kernel)) rfl), (inW (List.mem_of_getElem? (i := 796) (by decide +kernel)) rfl), (inW (List.mem_of_getElem? (i := 36) (by decide +kernel)) rfl), ⟨by decide +kernel, by decide +kernel, by decide +kernel⟩, (inW (List.mem_of_getElem? (i := 795) (by decide +kernel)) rfl)⟩
theorem mv_X8_121 : MV RX8 121 7 yX8_add cX8_add 7 (some .long) 5 := ⟨by decide, ⟨_, rfl, rfl⟩, (inW (List.mem_of_getElem? (i := 803) (by decide +kernel)) rfl), (inW (List.mem_of_getElem? (i := 806) (by decide +kernel)) rfl), (inW (List.mem_of_getElem? (i := 36) (by decide +kernel)) rfl), ⟨by decide +kernel, by decide +kernel, by decide +kernel⟩, (inW (List.mem_of_getElem? (i := 805) (by decide +kernel)) rfl), (inW (List.mem_of_getElem? (i := 16) (by decide +kernel)) rfl)⟩
theorem ms_X8_187 : MS RX8 187 yX8_isMap cX8_isMap 1 (some .boolean) 1 := ⟨(inW (List.mem_of_getElem? (i := 923) (by decide +kernel)) rfl), (inW (List.mem_of_getElem? (i := 925) (by decide +kernel)) rfl), (inW (List.mem_of_getElem? (i := 36) (by decide +kernel)) rfl), ⟨by decide +kernel, by decide +kernel, by decide +kernel⟩, (inW (List.mem_of_getElem? (i := 924) (by decide +kernel)) rfl)⟩
theorem mv_X8_150 : MV RX8 150 7 yX8_until cX8_until 4 (some .int) 1 := ⟨by decide, ⟨_, rfl, rfl⟩, (inW (List.mem_of_getElem? (i := 859) (by decide +kernel)) rfl), (inW (List.mem_of_getElem? (i := 862) (by decide +kernel)) rfl), (inW (List.mem_of_getElem? (i := 36) (by decide +kernel)) rfl), ⟨by decide +kernel, by decide +kernel, by decide +kernel⟩, (inW (List.mem_of_getElem? (i := 861) (by decide +kernel)) rfl), (inW (List.mem_of_getElem? (i := 21) (by decide +kernel)) rfl)⟩
theorem mv_X8_193 : MV RX8 193 7 yX8_agrees cX8_agrees 5 (some .int) 2 := ⟨by decide, ⟨_, rfl, rfl⟩, (inW (List.mem_of_getElem? (i := 938) (by decide +kernel)) rfl), (inW (List.mem_of_getElem? (i := 941) (by decide +kernel)) rfl), (inW (List.mem_of_getElem? (i := 36) (by decide +kernel)) rfl), ⟨by decide +kernel, by decide +kernel, by decide +kernel⟩, (inW (List.mem_of_getElem? (i := 940) (by decide +kernel)) rfl), (inW (List.mem_of_getElem? (i := 25) (by decide +kernel)) rfl)⟩
theorem mv_X8_183 : MV RX8 183 7 yX8_areUnlike cX8_areUnlike 4 (some .boolean) 3 := ⟨by decide, ⟨_, rfl, rfl⟩, (inW (List.mem_of_getElem? (i := 907) (by decide +kernel)) rfl), (inW (List.mem_of_getElem? (i := 910) (by decide +kernel)) rfl), (inW (List.mem_of_getElem? (i := 36) (by decide +kernel)) rfl), ⟨by decide +kernel, by decide +kernel, by decide +kernel⟩, (inW (List.mem_of_getElem? (i := 909) (by decide +kernel)) rfl), (inW (List.mem_of_getElem? (i := 23) (by decide +kernel)) rfl)⟩
theorem mv_X8_118 : MV RX8 118 7 yX8_isHundred cX8_isHundred 2 (some .boolean) 1 := ⟨by decide, ⟨_, rfl, rfl⟩, (inW (List.mem_of_getElem? (i := 799) (by decide +kernel)) rfl), (inW (List.mem_of_getElem? (i := 802) (by decide +kernel)) rfl), (inW (List.mem_of_getElem? (i := 36) (by decide +kernel)) rfl), ⟨by decide +kernel, by decide +kernel, by decide +kernel⟩, (inW (List.mem_of_getElem? (i := 801) (by decide +kernel)) rfl), (inW (List.mem_of_getElem? (i := 15) (by decide +kernel)) rfl)⟩
theorem fr_X8_198 : FR RX8 198 7 2 := ⟨_, rfl, by decide, by decide, Or.inl (inW (List.mem_of_getElem? (i := 689) (by decide +kernel)) rfl)⟩
theorem fr_X8_35 : FR RX8 35 7 12 := ⟨_, rfl, by decide, by decide, Or.inl (inW (List.mem_of_getElem? (i := 699) (by decide +kernel)) rfl)⟩
theorem sf_7_12 {o : Nat} (h : shp o = 7) : shp (rf o 12) = 9 := (by decide +kernel : ∀ o, o < 174 → shp o = 7 → shp (rf o 12) = 9) o (shp_lt (by omega)) h
theorem fr_X8_38 : FR RX8 38 7 13 := ⟨_, rfl, by decide, by decide, Or.inl (inW (List.mem_of_getElem? (i := 700) (by decide +kernel)) rfl)⟩
theorem sf_7_13 {o : Nat} (h : shp o = 7) : shp (rf o 13) = 9 := (by decide +kernel : ∀ o, o < 174 → shp o = 7 → shp (rf o 13) = 9) o (shp_lt (by omega)) h
theorem fr_X8_41 : FR RX8 41 7 14 := ⟨_, rfl, by decide, by decide, Or.inl (inW (List.mem_of_getElem? (i := 701) (by decide +kernel)) rfl)⟩
theorem sf_7_14 {o : Nat} (h : shp o = 7) : shp (rf o 14) = 9 := (by decide +kernel : ∀ o, o < 174 → shp o = 7 → shp (rf o 14) = 9) o (shp_lt (by omega)) h
theorem mv_X8_154 : MV RX8 154 7 yX8_held cX8_held 8 (some .long) 2 := ⟨by decide, ⟨_, rfl, rfl⟩, (inW (List.mem_of_getElem? (i := 871) (by decide +kernel)) rfl), (inW (List.mem_of_getElem? (i := 874) (by decide +kernel)) rfl), (inW (List.mem_of_getElem? (i := 36) (by decide +kernel)) rfl), ⟨by decide +kernel, by decide +kernel, by decide +kernel⟩, (inW (List.mem_of_getElem? (i := 873) (by decide +kernel)) rfl), (inW (List.mem_of_getElem? (i := 22) (by decide +kernel)) rfl)⟩
theorem mv_X8_201 : MV RX8 201 7 yX8_latest cX8_latest 4 (some .int) 2 := ⟨by decide, ⟨_, rfl, rfl⟩, (inW (List.mem_of_getElem? (i := 959) (by decide +kernel)) rfl), (inW (List.mem_of_getElem? (i := 962) (by decide +kernel)) rfl), (inW (List.mem_of_getElem? (i := 36) (by decide +kernel)) rfl), ⟨by decide +kernel, by decide +kernel, by decide +kernel⟩, (inW (List.mem_of_getElem? (i := 961) (by decide +kernel)) rfl), (inW (List.mem_of_getElem? (i := 26) (by decide +kernel)) rfl)⟩
theorem ms_X8_170 : MS RX8 170 yX8_cellsIn cX8_cellsIn 4 (some .int) 1 := ⟨(inW (List.mem_of_getElem? (i := 880) (by decide +kernel)) rfl), (inW (List.mem_of_getElem? (i := 882) (by decide +kernel)) rfl), (inW (List.mem_of_getElem? (i := 36) (by decide +kernel)) rfl), ⟨by decide +kernel, by decide +kernel, by decide +kernel⟩, (inW (List.mem_of_getElem? (i := 881) (by decide +kernel)) rfl)⟩
theorem ms_X8_204 : MS RX8 204 yX8_common cX8_common 10 (some .long) 2 := ⟨(inW (List.mem_of_getElem? (i := 963) (by decide +kernel)) rfl), (inW (List.mem_of_getElem? (i := 965) (by decide +kernel)) rfl), (inW (List.mem_of_getElem? (i := 36) (by decide +kernel)) rfl), ⟨by decide +kernel, by decide +kernel, by decide +kernel⟩, (inW (List.mem_of_getElem? (i := 964) (by decide +kernel)) rfl)⟩
theorem kcl_X8_145 : Cond.constantLong RX8 145 (-1000000000000000006) ∈ lwT := (inW (List.mem_of_getElem? (i := 850) (by decide +kernel)) rfl)
theorem kcl_X8_94 : Cond.constantLong RX8 94 (35) ∈ lwT := (inW (List.mem_of_getElem? (i := 858) (by decide +kernel)) rfl)
theorem ms_X8_147 : MS RX8 147 yX8_isCell cX8_isCell 1 (some .boolean) 1 := ⟨(inW (List.mem_of_getElem? (i := 855) (by decide +kernel)) rfl), (inW (List.mem_of_getElem? (i := 857) (by decide +kernel)) rfl), (inW (List.mem_of_getElem? (i := 36) (by decide +kernel)) rfl), ⟨by decide +kernel, by decide +kernel, by decide +kernel⟩, (inW (List.mem_of_getElem? (i := 856) (by decide +kernel)) rfl)⟩
theorem ms_X8_208 : MS RX8 208 yX8_isSheet cX8_isSheet 1 (some .boolean) 1 := ⟨(inW (List.mem_of_getElem? (i := 974) (by decide +kernel)) rfl), (inW (List.mem_of_getElem? (i := 976) (by decide +kernel)) rfl), (inW (List.mem_of_getElem? (i := 36) (by decide +kernel)) rfl), ⟨by decide +kernel, by decide +kernel, by decide +kernel⟩, (inW (List.mem_of_getElem? (i := 975) (by decide +kernel)) rfl)⟩
theorem fr_X8_44 : FR RX8 44 7 15 := ⟨_, rfl, by decide, by decide, Or.inl (inW (List.mem_of_getElem? (i := 702) (by decide +kernel)) rfl)⟩
theorem sf_7_15 {o : Nat} (h : shp o = 7) : shp (rf o 15) = 9 := (by decide +kernel : ∀ o, o < 174 → shp o = 7 → shp (rf o 15) = 9) o (shp_lt (by omega)) h
theorem kcl_X8_211 : Cond.constantLong RX8 211 (-1000000000000000002) ∈ lwT := (inW (List.mem_of_getElem? (i := 981) (by decide +kernel)) rfl)
theorem fr_X8_47 : FR RX8 47 7 16 := ⟨_, rfl, by decide, by decide, Or.inl (inW (List.mem_of_getElem? (i := 703) (by decide +kernel)) rfl)⟩
theorem sf_7_16 {o : Nat} (h : shp o = 7) : shp (rf o 16) = 9 := (by decide +kernel : ∀ o, o < 174 → shp o = 7 → shp (rf o 16) = 9) o (shp_lt (by omega)) h
theorem fr_X8_75 : FR RX8 75 7 25 := ⟨_, rfl, by decide, by decide, Or.inl (inW (List.mem_of_getElem? (i := 712) (by decide +kernel)) rfl)⟩
theorem sf_7_25 {o : Nat} (h : shp o = 7) : shp (rf o 25) = 9 := (by decide +kernel : ∀ o, o < 174 → shp o = 7 → shp (rf o 25) = 9) o (shp_lt (by omega)) h
theorem fr_X8_50 : FR RX8 50 7 17 := ⟨_, rfl, by decide, by decide, Or.inl (inW (List.mem_of_getElem? (i := 704) (by decide +kernel)) rfl)⟩
theorem sf_7_17 {o : Nat} (h : shp o = 7) : shp (rf o 17) = 9 := (by decide +kernel : ∀ o, o < 174 → shp o = 7 → shp (rf o 17) = 9) o (shp_lt (by omega)) h
theorem kcl_X8_196 : Cond.constantLong RX8 196 (1000000) ∈ lwT := (inW (List.mem_of_getElem? (i := 954) (by decide +kernel)) rfl)
theorem pt_7_2 : PT 7 2 .int := fun q h => by cases h; exact ⟨by decide +kernel, rfl⟩
theorem mv_X8_190 : MV RX8 190 7 yX8_claimsOf cX8_claimsOf 4 (some .int) 1 := ⟨by decide, ⟨_, rfl, rfl⟩, (inW (List.mem_of_getElem? (i := 934) (by decide +kernel)) rfl), (inW (List.mem_of_getElem? (i := 937) (by decide +kernel)) rfl), (inW (List.mem_of_getElem? (i := 36) (by decide +kernel)) rfl), ⟨by decide +kernel, by decide +kernel, by decide +kernel⟩, (inW (List.mem_of_getElem? (i := 936) (by decide +kernel)) rfl), (inW (List.mem_of_getElem? (i := 24) (by decide +kernel)) rfl)⟩
theorem ms_X8_180 : MS RX8 180 yX8_areBeside cX8_areBeside 3 (some .boolean) 2 := ⟨(inW (List.mem_of_getElem? (i := 904) (by decide +kernel)) rfl), (inW (List.mem_of_getElem? (i := 906) (by decide +kernel)) rfl), (inW (List.mem_of_getElem? (i := 36) (by decide +kernel)) rfl), ⟨by decide +kernel, by decide +kernel, by decide +kernel⟩, (inW (List.mem_of_getElem? (i := 905) (by decide +kernel)) rfl)⟩
theorem kcl_X8_125 : Cond.constantLong RX8 125 (-1000000000000000003) ∈ lwT := (inW (List.mem_of_getElem? (i := 811) (by decide +kernel)) rfl)
theorem fr_X8_29 : FR RX8 29 7 10 := ⟨_, rfl, by decide, by decide, Or.inl (inW (List.mem_of_getElem? (i := 697) (by decide +kernel)) rfl)⟩
theorem sf_7_10 {o : Nat} (h : shp o = 7) : shp (rf o 10) = 9 := (by decide +kernel : ∀ o, o < 174 → shp o = 7 → shp (rf o 10) = 9) o (shp_lt (by omega)) h
theorem ms_X8_160 : MS RX8 160 yX8_has cX8_has 3 (some .boolean) 2 := ⟨(inW (List.mem_of_getElem? (i := 886) (by decide +kernel)) rfl), (inW (List.mem_of_getElem? (i := 888) (by decide +kernel)) rfl), (inW (List.mem_of_getElem? (i := 36) (by decide +kernel)) rfl), ⟨by decide +kernel, by decide +kernel, by decide +kernel⟩, (inW (List.mem_of_getElem? (i := 887) (by decide +kernel)) rfl)⟩
theorem kcl_X8_168 : Cond.constantLong RX8 168 (2) ∈ lwT := (inW (List.mem_of_getElem? (i := 879) (by decide +kernel)) rfl)
theorem ms_X8_174 : MS RX8 174 yX8_pieces cX8_pieces 12 (some .int) 1 := ⟨(inW (List.mem_of_getElem? (i := 883) (by decide +kernel)) rfl), (inW (List.mem_of_getElem? (i := 885) (by decide +kernel)) rfl), (inW (List.mem_of_getElem? (i := 36) (by decide +kernel)) rfl), ⟨by decide +kernel, by decide +kernel, by decide +kernel⟩, (inW (List.mem_of_getElem? (i := 884) (by decide +kernel)) rfl)⟩
theorem ms_X8_177 : MS RX8 177 yX8_sides cX8_sides 5 (some .int) 1 := ⟨(inW (List.mem_of_getElem? (i := 893) (by decide +kernel)) rfl), (inW (List.mem_of_getElem? (i := 895) (by decide +kernel)) rfl), (inW (List.mem_of_getElem? (i := 36) (by decide +kernel)) rfl), ⟨by decide +kernel, by decide +kernel, by decide +kernel⟩, (inW (List.mem_of_getElem? (i := 894) (by decide +kernel)) rfl)⟩
theorem pt_7_0 : PT 7 0 .int := fun q h => by cases h; exact ⟨by decide +kernel, rfl⟩
end
section
def abs0 (x : Int32) : Int32 := if 0 ≤ x then x else 0 - x
def AB (own : String) (idx : Nat) : Prop := Cond.methodLink own idx Lib.Math.abs.name ∈ lwT ∧ Cond.static Lib.Math.abs.name ∈ lwT ∧ Cond.initialized "java/lang/Math" ∈ lwT ∧ Cond.code Lib.Math.abs.name Lib.Math.abs.code 1 (some .int) ∈ lwT
theorem T_mabs {G : Gw} {l : Launch} {own : String} {cc : ByteArray} {nL : Nat} {ret : Option FieldType} {R : Room} {kc ks : Nat} {Fn : Array Value → List Frame → State → State → Prop} {α : Type} {Dn : α → Prop} {pc : Nat} {lv : List (Nat × Value)} {st : List Value} {M : Mem} {r : Option α} {idx : Nat} {x : Int32} (hw : AB own idx) (hR : 1 ≤ R.frames ∧ (st.map fun v => v.category).sum + 13 ≤ R.locals) (hc : kc ≤ R.cells ∧ ks ≤ R.slots) (hd : decode cc pc = .ok (.invokestatic idx, 3)) (k : T G l own cc nL ret R kc ks Fn Dn (pc + 3) lv (.int (abs0 x) :: st) M r) : T G l own cc nL ret R kc ks Fn Dn pc lv (.int x :: st) M r := fun a h d p e s m args below meth c H locs ls C hP hS hl =>
  va_mabs C.1 C.2.1 (by rw [C.2.2.2.2.1]; exact hl.1.symm) C.2.2.2.2.2.1 (C.2.2.2.2.2.2.1 _ hw.1) (C.2.2.2.2.2.2.1 _ hw.2.1) (C.2.2.2.2.2.2.1 _ hw.2.2.1) (C.2.2.2.2.2.2.1 _ hw.2.2.2) hR.1 hR.2 hc.1 hc.2 hd (k a h d p e s m args below meth c H locs ls C hP hS hl)
theorem ab_X3_13 : AB RX3 13 := ⟨(inW (List.mem_of_getElem? (i := 489) (by decide +kernel)) rfl), (inW (List.mem_of_getElem? (i := 490) (by decide +kernel)) rfl), (inW (List.mem_of_getElem? (i := 40) (by decide +kernel)) rfl), (inW (List.mem_of_getElem? (i := 491) (by decide +kernel)) rfl)⟩
end
section
noncomputable def fJ13_bitCount_95d88 (x0 : Int64) : Option (Int32) := lt (x0 - ((lushr x0 (1 : Int32)) &&& (6148914691236517205 : Int64))) (fun v1 => lt ((v1 &&& (3689348814741910323 : Int64)) + ((lushr v1 (2 : Int32)) &&& (3689348814741910323 : Int64))) (fun v2 => lt ((v2 + (lushr v2 (4 : Int32))) &&& (1085102592571150095 : Int64)) (fun v3 => lt (v3 + (lushr v3 (8 : Int32))) (fun v4 => lt (v4 + (lushr v4 (16 : Int32))) (fun v5 => lt (v5 + (lushr v5 (32 : Int32))) (fun v6 => some (v6.toInt32 &&& (127 : Int32))))))))
noncomputable def wJ7_fill_53178_5 (o0 : Nat) (x1 : Int32) (v1 : Int32) (s2 : Int32 × Mem) : Option ((Int32 × Mem) ⊕ (Int32 × Mem)) := if v1 ≤ s2.1 then (some (.inr (s2.1, s2.2))) else (gi s2.1 (ln o0) (lt (mi s2.2 o0 s2.1.toNatClampNeg x1) (fun M4 => lt (s2.1 + 1) (fun v5 => some (.inl (v5, M4))))))
noncomputable def fJ7_fill_53178 (o0 : Nat) (x1 : Int32) (M : Mem) : Option (Mem) := lt (nI (ln o0)) (fun v1 => Option.bind (wh (wJ7_fill_53178_5 o0 x1 v1) ((0 : Int32), M)) (fun r6 => some r6.2))
end
section
set_option maxHeartbeats 4000000 in
set_option maxRecDepth 100000 in
theorem mJ13_bitCount_95d88 (G : Gw) (l : Launch) (x0 : Int64) (M : Mem) (a : Int32) (h : fJ13_bitCount_95d88 x0 = some a) : CtP G l yJ13_bitCount_95d88 cJ13_bitCount_95d88 2 (some .int) 0 0 [.long x0] M (some (.int a)) M := by
  refine CtP.ofV (by decide) (Nat.le_of_ble_eq_true rfl) ?_
  refine (?_ : T G l RJ13 cJ13_bitCount_95d88 2 (some .int) (rmOf 0 0) 0 0 (FinM G (some (.int a)) M) (fun x => x = a) 0 [(0, .long x0)] [] M (fJ13_bitCount_95d88 x0)) a h rfl
  clear h
  unfold fJ13_bitCount_95d88
  refine T_lload_n (q := 0) dJ13_bitCount_95d88_0 rfl rfl ?_
  refine T_lload_n (q := 0) dJ13_bitCount_95d88_1 rfl rfl ?_
  refine T_iconst (v := 1) dJ13_bitCount_95d88_2 (by decide) ?_
  refine T_lushr dJ13_bitCount_95d88_3 ?_
  refine T_ldc2 dJ13_bitCount_95d88_4 kcl_J13_314 ?_
  refine T_land dJ13_bitCount_95d88_7 ?_
  refine T_lsub dJ13_bitCount_95d88_8 ?_
  refine T_lstore_n_G (lv' := fun v1 => [(0, .long v1)]) dJ13_bitCount_95d88_9 rfl (by decide) (fun _ => rfl) (fun v1 => ?_)
  refine T_lload_n (q := 0) dJ13_bitCount_95d88_10 rfl rfl ?_
  refine T_ldc2 dJ13_bitCount_95d88_11 kcl_J13_316 ?_
  refine T_land dJ13_bitCount_95d88_14 ?_
  refine T_lload_n (q := 0) dJ13_bitCount_95d88_15 rfl rfl ?_
  refine T_iconst (v := 2) dJ13_bitCount_95d88_16 (by decide) ?_
  refine T_lushr dJ13_bitCount_95d88_17 ?_
  refine T_ldc2 dJ13_bitCount_95d88_18 kcl_J13_316 ?_
  refine T_land dJ13_bitCount_95d88_21 ?_
  refine T_ladd dJ13_bitCount_95d88_22 ?_
  refine T_lstore_n_G (lv' := fun v2 => [(0, .long v2)]) dJ13_bitCount_95d88_23 rfl (by decide) (fun _ => rfl) (fun v2 => ?_)
  refine T_lload_n (q := 0) dJ13_bitCount_95d88_24 rfl rfl ?_
  refine T_lload_n (q := 0) dJ13_bitCount_95d88_25 rfl rfl ?_
  refine T_iconst (v := 4) dJ13_bitCount_95d88_26 (by decide) ?_
  refine T_lushr dJ13_bitCount_95d88_27 ?_
  refine T_ladd dJ13_bitCount_95d88_28 ?_
  refine T_ldc2 dJ13_bitCount_95d88_29 kcl_J13_318 ?_
  refine T_land dJ13_bitCount_95d88_32 ?_
  refine T_lstore_n_G (lv' := fun v3 => [(0, .long v3)]) dJ13_bitCount_95d88_33 rfl (by decide) (fun _ => rfl) (fun v3 => ?_)
  refine T_lload_n (q := 0) dJ13_bitCount_95d88_34 rfl rfl ?_
  refine T_lload_n (q := 0) dJ13_bitCount_95d88_35 rfl rfl ?_
  refine T_bipush (v := 8) dJ13_bitCount_95d88_36 (by decide) ?_
  refine T_lushr dJ13_bitCount_95d88_38 ?_
  refine T_ladd dJ13_bitCount_95d88_39 ?_
  refine T_lstore_n_G (lv' := fun v4 => [(0, .long v4)]) dJ13_bitCount_95d88_40 rfl (by decide) (fun _ => rfl) (fun v4 => ?_)
  refine T_lload_n (q := 0) dJ13_bitCount_95d88_41 rfl rfl ?_
  refine T_lload_n (q := 0) dJ13_bitCount_95d88_42 rfl rfl ?_
  refine T_bipush (v := 16) dJ13_bitCount_95d88_43 (by decide) ?_
  refine T_lushr dJ13_bitCount_95d88_45 ?_
  refine T_ladd dJ13_bitCount_95d88_46 ?_
  refine T_lstore_n_G (lv' := fun v5 => [(0, .long v5)]) dJ13_bitCount_95d88_47 rfl (by decide) (fun _ => rfl) (fun v5 => ?_)
  refine T_lload_n (q := 0) dJ13_bitCount_95d88_48 rfl rfl ?_
  refine T_lload_n (q := 0) dJ13_bitCount_95d88_49 rfl rfl ?_
  refine T_bipush (v := 32) dJ13_bitCount_95d88_50 (by decide) ?_
  refine T_lushr dJ13_bitCount_95d88_52 ?_
  refine T_ladd dJ13_bitCount_95d88_53 ?_
  refine T_lstore_n_G (lv' := fun v6 => [(0, .long v6)]) dJ13_bitCount_95d88_54 rfl (by decide) (fun _ => rfl) (fun v6 => ?_)
  refine T_lload_n (q := 0) dJ13_bitCount_95d88_55 rfl rfl ?_
  refine T_l2i dJ13_bitCount_95d88_56 ?_
  refine T_bipush (v := 127) dJ13_bitCount_95d88_57 (by decide) ?_
  refine T_iand dJ13_bitCount_95d88_59 ?_
  exact T_end (fun h => by cases h; exact V_iret dJ13_bitCount_95d88_60)
set_option maxHeartbeats 4000000 in
set_option maxRecDepth 100000 in
theorem mJ7_fill_53178 (G : Gw) (l : Launch) (o0 : Nat) (ho0 : shp o0 = 9) (x1 : Int32) (M : Mem) (a : Mem) (h : fJ7_fill_53178 o0 x1 M = some a) : CtP G l yJ7_fill_53178 cJ7_fill_53178 4 none 0 0 [.ref (adr G o0), .int x1] M (none) a := by
  refine CtP.ofV (by decide) (Nat.le_of_ble_eq_true rfl) ?_
  refine (?_ : T G l RJ7 cJ7_fill_53178 4 none (rmOf 0 0) 0 0 (FinM G (none) a) (fun x => x = a) 0 [(0, .ref (adr G o0)), (1, .int x1)] [] M (fJ7_fill_53178 o0 x1 M)) a h rfl
  clear h
  unfold fJ7_fill_53178
  refine T_iconst (v := 0) dJ7_fill_53178_0 (by decide) ?_
  refine T_istore_n (lv' := [(2, .int (0 : Int32)), (0, .ref (adr G o0)), (1, .int x1)]) dJ7_fill_53178_1 rfl (by decide) rfl ?_
  refine T_aload_n (q := 1) dJ7_fill_53178_2 rfl rfl ?_
  refine T_alen dJ7_fill_53178_3 ho0 ?_
  refine T_istore_n_G (lv' := fun v1 => [(3, .int v1), (2, .int (0 : Int32)), (0, .ref (adr G o0)), (1, .int x1)]) dJ7_fill_53178_4 rfl (by decide) (fun _ => rfl) (fun v1 => ?_)
  refine T_bind (X := fun r6 => V G l RJ7 cJ7_fill_53178 4 none (rmOf 0 0) 0 0 (FinM G (none) a) 20 [(3, .int v1), (2, .int r6.1), (0, .ref (adr G o0)), (1, .int x1)] [] r6.2) (T_loop (fun s2 => [(3, .int v1), (2, .int s2.1), (0, .ref (adr G o0)), (1, .int x1)]) (fun s2 => s2.2) (fun s2 => ?_) ((0 : Int32), M)) (fun r6 => ?_)
  · unfold wJ7_fill_53178_5
    refine T_iload_n (q := 1) dJ7_fill_53178_5 rfl rfl ?_
    refine T_iload_n (q := 0) dJ7_fill_53178_6 rfl rfl ?_
    refine T_icmp_ge (tgt := 20) dJ7_fill_53178_7 (by decide) (fun hc3 => ?_) (fun hc3 => ?_)
    · exact T_end (fun h => V_sub [0, 1, 2, 3] rfl h)
    · refine T_aload_n (q := 2) dJ7_fill_53178_10 rfl rfl ?_
      refine T_iload_n (q := 1) dJ7_fill_53178_11 rfl rfl ?_
      refine T_iload_n (q := 3) dJ7_fill_53178_12 rfl rfl ?_
      refine T_iast dJ7_fill_53178_13 ho0 (fun M4 => ?_)
      refine T_iinc_G (q := 1) (y := s2.1 + 1) (lv' := fun v5 => [(2, .int v5), (3, .int v1), (0, .ref (adr G o0)), (1, .int x1)]) dJ7_fill_53178_14 rfl rfl (by decide) (fun _ => rfl) (fun v5 => ?_)
      refine T_goto (tgt := 5) dJ7_fill_53178_17 (by decide) ?_
      exact T_end (fun h => V_sub [1, 0, 2, 3] rfl h)
  · change T G l RJ7 cJ7_fill_53178 4 none (rmOf 0 0) 0 0 (FinM G (none) a) _ 20 [(3, .int v1), (2, .int r6.1), (0, .ref (adr G o0)), (1, .int x1)] [] r6.2 _
    exact T_end (fun h => by cases h; exact V_vret dJ7_fill_53178_20)
end
section
noncomputable def fX0_canBeTurnedBack (o0 : Nat) (M : Mem) : Option (Int32) := if (M.1 o0 0) = 0 then (some (1 : Int32)) else (if (M.1 o0 0) = (1 : Int32) then (some (1 : Int32)) else (if (M.1 o0 0) = (2 : Int32) then (some (1 : Int32)) else (some (0 : Int32))))
noncomputable def fX0_receiver (o0 : Nat) (M : Mem) : Option (Int32) := if (M.1 o0 0) = 0 then (some (M.1 o0 2)) else (some (M.1 o0 3))
noncomputable def fX4_isSlot (x0 : Int32) : Option (Int32) := if x0 < 0 then (some (0 : Int32)) else (if (10 : Int32) ≤ x0 then (some (0 : Int32)) else (some (1 : Int32)))
noncomputable def wX4_heldBy_21 (o0 : Nat) (M : Mem) (s3 : Int64 × Int32) : Option ((Int64 × Int32) ⊕ (Int64 × Int32)) := if (10 : Int32) ≤ s3.2 then (some (.inr (s3.1, s3.2))) else (gi s3.2 (ln (rf o0 0)) (lt (s3.1 &&& ((M.2 (rf o0 0) s3.2.toNatClampNeg) ^^^ (-1 : Int64))) (fun v5 => lt (s3.2 + 1) (fun v6 => some (.inl (v5, v6))))))
noncomputable def fX4_heldBy (o0 : Nat) (x1 : Int32) (M : Mem) : Option (Int64) := Option.bind (fX4_isSlot x1) (fun b1 => if b1 = 0 then (Option.bind (wh (wX4_heldBy_21 o0 M) ((68719476735 : Int64), (0 : Int32))) (fun r7 => some r7.1)) else (gi x1 (ln (rf o0 0)) (some (M.2 (rf o0 0) x1.toNatClampNeg))))
noncomputable def fX3_has (x0 : Int64) (x2 : Int32) : Option (Int32) := if (lg_cmp ((lushr x0 x2) &&& (1 : Int64)) (1 : Int64)) = 0 then (some (1 : Int32)) else (some (0 : Int32))
noncomputable def wX3_firstOf_2 (x0 : Int64) (s1 : Int32) : Option ((Int32) ⊕ (Int32)) := if (36 : Int32) ≤ s1 then (some (.inr (36 : Int32))) else (Option.bind (fX3_has x0 s1) (fun b3 => if b3 = 0 then (lt (s1 + 1) (fun v5 => some (.inl v5))) else (some (.inr s1))))
noncomputable def fX3_firstOf (x0 : Int64) : Option (Int32) := wh (wX3_firstOf_2 x0) (0 : Int32)
noncomputable def fX4_becomeLike (o0 : Nat) (o1 : Nat) (M : Mem) : Option (Mem) := gcp (ln (rf o1 0)) (ln (rf o0 0)) (0 : Int32) (0 : Int32) (10 : Int32) (lt (mcl M (rf o1 0) (rf o0 0) (0 : Int32).toNatClampNeg (0 : Int32).toNatClampNeg (10 : Int32).toNatClampNeg) (fun M1 => gcp (ln (rf o1 1)) (ln (rf o0 1)) (0 : Int32) (0 : Int32) (10 : Int32) (lt (mci M1 (rf o1 1) (rf o0 1) (0 : Int32).toNatClampNeg (0 : Int32).toNatClampNeg (10 : Int32).toNatClampNeg) (fun M2 => lt (mi M2 o0 2 (M2.1 o1 2)) (fun M3 => some M3)))))
noncomputable def fX4_isThere (o0 : Nat) (x1 : Int32) (M : Mem) : Option (Int32) := Option.bind (fX4_isSlot x1) (fun b1 => if b1 = 0 then (some (0 : Int32)) else (if ((ushr (M.1 o0 2) x1) &&& (1 : Int32)) = (1 : Int32) then (some (1 : Int32)) else (some (0 : Int32))))
noncomputable def fX4_arrive (o0 : Nat) (x1 : Int32) (M : Mem) : Option (Mem) := Option.bind (fX4_isSlot x1) (fun b1 => if b1 = 0 then (some M) else (lt (mi M o0 2 ((M.1 o0 2) ||| ((1 : Int32) <<< (x1 &&& 31)))) (fun M3 => some M3)))
noncomputable def wX4_give_3 (o0 : Nat) (x1 : Int64) (s1 : Int32 × Mem) : Option ((Int32 × Mem) ⊕ (Int32 × Mem)) := if (10 : Int32) ≤ s1.1 then (some (.inr (s1.1, s1.2))) else (gi s1.1 (ln (rf o0 0)) (gi s1.1 (ln (rf o0 0)) (lt (ml s1.2 (rf o0 0) s1.1.toNatClampNeg ((s1.2.2 (rf o0 0) s1.1.toNatClampNeg) &&& (x1 ^^^ (-1 : Int64)))) (fun M3 => lt (s1.1 + 1) (fun v4 => some (.inl (v4, M3)))))))
noncomputable def fX4_give (o0 : Nat) (x1 : Int64) (x3 : Int32) (M : Mem) : Option (Mem) := Option.bind (wh (wX4_give_3 o0 x1) ((0 : Int32), M)) (fun r5 => Option.bind (fX4_isSlot x3) (fun b6 => if b6 = 0 then (some r5.2) else (gi x3 (ln (rf o0 0)) (gi x3 (ln (rf o0 0)) (lt (ml r5.2 (rf o0 0) x3.toNatClampNeg ((r5.2.2 (rf o0 0) x3.toNatClampNeg) ||| x1)) (fun M8 => some M8))))))
noncomputable def fX4_leave (o0 : Nat) (x1 : Int32) (M : Mem) : Option (Mem) := Option.bind (fX4_isSlot x1) (fun b1 => if b1 = 0 then (some M) else (lt (mi M o0 2 ((M.1 o0 2) &&& (((1 : Int32) <<< (x1 &&& 31)) ^^^ (-1 : Int32)))) (fun M3 => gi x1 (ln (rf o0 1)) (lt (mi M3 (rf o0 1) x1.toNatClampNeg (10 : Int32)) (fun M4 => some M4)))))
noncomputable def fX4_putUnder (o0 : Nat) (x1 : Int32) (x2 : Int32) (M : Mem) : Option (Mem) := Option.bind (fX4_isSlot x1) (fun b1 => if b1 = 0 then (some M) else (gi x1 (ln (rf o0 1)) (lt (mi M (rf o0 1) x1.toNatClampNeg x2) (fun M3 => some M3))))
noncomputable def wX4_heldUnder_5 (o0 : Nat) (x1 : Int32) (M : Mem) (s1 : Int64 × Int32) : Option ((Int64 × Int32) ⊕ (Int64 × Int32)) := if (10 : Int32) ≤ s1.2 then (some (.inr (s1.1, s1.2))) else (gi s1.2 (ln (rf o0 1)) (if (M.1 (rf o0 1) s1.2.toNatClampNeg) = x1 then (gi s1.2 (ln (rf o0 0)) (lt (s1.1 ||| (M.2 (rf o0 0) s1.2.toNatClampNeg)) (fun v4 => lt (s1.2 + 1) (fun v5 => some (.inl (v4, v5)))))) else (lt (s1.2 + 1) (fun v6 => some (.inl (s1.1, v6))))))
noncomputable def fX4_heldUnder (o0 : Nat) (x1 : Int32) (M : Mem) : Option (Int64) := Option.bind (wh (wX4_heldUnder_5 o0 x1 M) ((0 : Int64), (0 : Int32))) (fun r7 => some r7.1)
noncomputable def wX4_holderOf_2 (o0 : Nat) (x1 : Int32) (M : Mem) (s1 : Int32) : Option ((Int32) ⊕ (Int32)) := if (10 : Int32) ≤ s1 then (some (.inr (10 : Int32))) else (gi s1 (ln (rf o0 0)) (Option.bind (fX3_has (M.2 (rf o0 0) s1.toNatClampNeg) x1) (fun b3 => if b3 = 0 then (lt (s1 + 1) (fun v5 => some (.inl v5))) else (some (.inr s1)))))
noncomputable def fX4_holderOf (o0 : Nat) (x1 : Int32) (M : Mem) : Option (Int32) := wh (wX4_holderOf_2 o0 x1 M) (0 : Int32)
noncomputable def fX4_hasBorder (o0 : Nat) (x1 : Int32) (x2 : Int32) (M : Mem) : Option (Int32) := Option.bind (fX4_holderOf o0 x1 M) (fun b1 => Option.bind (fX4_holderOf o0 x2 M) (fun b2 => if b1 = b2 then (some (0 : Int32)) else (some (1 : Int32))))
noncomputable def fX3_areBeside (x0 : Int32) (x1 : Int32) : Option (Int32) := lt (abs0 (x0 - x1)) (fun v1 => if v1 = (6 : Int32) then (some (1 : Int32)) else (if v1 = (1 : Int32) then (gz (6 : Int32) (gz (6 : Int32) (if (x0 / (6 : Int32)) = (x1 / (6 : Int32)) then (some (1 : Int32)) else (some (0 : Int32))))) else (some (0 : Int32))))
noncomputable def fX3_down (x0 : Int64) : Option (Int64) := some ((lshl x0 (6 : Int32)) &&& (68719476735 : Int64))
noncomputable def fX3_right (x0 : Int64) : Option (Int64) := some (((lshl x0 (1 : Int32)) &&& (68719476735 : Int64)) &&& (-1090785346 : Int64))
noncomputable def fX3_left (x0 : Int64) : Option (Int64) := some (lushr (x0 &&& (-1090785346 : Int64)) (1 : Int32))
noncomputable def fX3_up (x0 : Int64) : Option (Int64) := some (lushr x0 (6 : Int32))
noncomputable def wX3_heapFrom_12 (x1 : Int64) (s2 : Int64 × Int64 × Int32) : Option ((Int64 × Int64 × Int32) ⊕ (Int64 × Int64 × Int32)) := if (36 : Int32) ≤ s2.2.2 then (some (.inr (s2.1, s2.2.1, s2.2.2))) else (if (lg_cmp s2.1 s2.2.1) = 0 then (some (.inr (s2.1, s2.2.1, s2.2.2))) else (Option.bind (fX3_right s2.1) (fun b5 => Option.bind (fX3_left s2.1) (fun b6 => Option.bind (fX3_down s2.1) (fun b7 => Option.bind (fX3_up s2.1) (fun b8 => lt (s2.1 ||| ((((b5 ||| b6) ||| b7) ||| b8) &&& x1)) (fun v9 => lt (s2.2.2 + 1) (fun v10 => some (.inl (v9, s2.1, v10))))))))))
noncomputable def fX3_heapFrom (x0 : Int32) (x1 : Int64) : Option (Int64) := lt ((lshl (1 : Int64) x0) &&& x1) (fun v1 => Option.bind (wh (wX3_heapFrom_12 x1) (v1, (0 : Int64), (0 : Int32))) (fun r11 => some r11.1))
noncomputable def fX3_isCell (x0 : Int32) : Option (Int32) := if x0 < 0 then (some (0 : Int32)) else (if (36 : Int32) ≤ x0 then (some (0 : Int32)) else (some (1 : Int32)))
noncomputable def fX3_isSet (x0 : Int64) : Option (Int32) := if (lg_cmp (x0 &&& (-68719476736 : Int64)) (0 : Int64)) = 0 then (some (1 : Int32)) else (some (0 : Int32))
noncomputable def fX3_pairsWithin (x0 : Int64) : Option (Int32) := Option.bind (fX3_right x0) (fun b1 => Option.bind (fJ13_bitCount_95d88 (x0 &&& b1)) (fun b2 => Option.bind (fX3_down x0) (fun b3 => Option.bind (fJ13_bitCount_95d88 (x0 &&& b3)) (fun b4 => some (b2 + b4)))))
noncomputable def wX3_pieces_7  (s1 : Int32 × Int64 × Int32) : Option ((Int32 × Int64 × Int32) ⊕ (Int32 × Int64 × Int32)) := if (36 : Int32) ≤ s1.2.2 then (some (.inr (s1.1, s1.2.1, s1.2.2))) else (Option.bind (fX3_has s1.2.1 s1.2.2) (fun b3 => if b3 = 0 then (lt (s1.2.2 + 1) (fun v5 => some (.inl (s1.1, s1.2.1, v5)))) else (lt (s1.1 + 1) (fun v6 => Option.bind (fX3_heapFrom s1.2.2 s1.2.1) (fun b7 => lt (s1.2.1 &&& (b7 ^^^ (-1 : Int64))) (fun v8 => lt (s1.2.2 + 1) (fun v9 => some (.inl (v6, v8, v9)))))))))
noncomputable def fX3_pieces (x0 : Int64) : Option (Int32) := Option.bind (wh wX3_pieces_7 ((0 : Int32), x0, (0 : Int32))) (fun r10 => some r10.1)
noncomputable def fX3_sides (x0 : Int64) : Option (Int32) := Option.bind (fJ13_bitCount_95d88 x0) (fun b1 => Option.bind (fX3_pairsWithin x0) (fun b2 => some (((4 : Int32) * b1) - ((2 : Int32) * b2))))
noncomputable def wX4_borderPairs_4 (o0 : Nat) (M : Mem) (s1 : Int32 × Int32) : Option ((Int32 × Int32) ⊕ (Int32 × Int32)) := if (11 : Int32) ≤ s1.2 then (some (.inr (s1.1, s1.2))) else (Option.bind (fX4_heldBy o0 s1.2 M) (fun b3 => Option.bind (fX3_pairsWithin b3) (fun b4 => lt (s1.1 + b4) (fun v5 => lt (s1.2 + 1) (fun v6 => some (.inl (v5, v6)))))))
noncomputable def fX4_borderPairs (o0 : Nat) (M : Mem) : Option (Int32) := Option.bind (wh (wX4_borderPairs_4 o0 M) ((0 : Int32), (0 : Int32))) (fun r7 => some ((60 : Int32) - r7.1))
noncomputable def fX4_hundredOver (o0 : Nat) (x1 : Int32) (M : Mem) : Option (Int32) := Option.bind (fX4_isSlot x1) (fun b1 => if b1 = 0 then (some (10 : Int32)) else (gi x1 (ln (rf o0 1)) (some (M.1 (rf o0 1) x1.toNatClampNeg))))
noncomputable def fX5_hasRun (o0 : Nat) (x1 : Int32) (x2 : Int32) (M : Mem) : Option (Int32) := if x1 < 0 then (some (0 : Int32)) else (if x2 < 0 then (some (0 : Int32)) else (if (M.1 o0 2) < x2 then (some (0 : Int32)) else (if ((M.1 o0 2) - x2) < x1 then (some (0 : Int32)) else (some (1 : Int32)))))
noncomputable def fX5_isMissing (o0 : Nat) (M : Mem) : Option (Int32) := if (M.1 o0 1) = 0 then (some (1 : Int32)) else (some (0 : Int32))
noncomputable def fX5_lowestBits (o0 : Nat) (x1 : Int32) (M : Mem) : Option (Int32) := if (M.1 o0 1) = (32 : Int32) then (some x1) else (some (x1 &&& (((1 : Int32) <<< ((M.1 o0 1) &&& 31)) - (1 : Int32))))
noncomputable def fX5_renew (o0 : Nat) (x1 : Int32) (x2 : Int32) (M : Mem) : Option (Int32 × Mem) := lt (mi M o0 1 x1) (fun M1 => if x1 = 0 then (lt (mi M1 o0 2 (0 : Int32)) (fun M3 => Option.bind (fJ7_fill_53178 (rf o0 0) (0 : Int32) M3) (fun b4 => some (b4.1 o0 2, b4)))) else (lt (mi M1 o0 2 x2) (fun M5 => Option.bind (fJ7_fill_53178 (rf o0 0) (0 : Int32) M5) (fun b6 => some (b6.1 o0 2, b6)))))
end
section
set_option maxHeartbeats 4000000 in
set_option maxRecDepth 100000 in
theorem mX0_canBeTurnedBack (G : Gw) (l : Launch) (o0 : Nat) (ho0 : shp o0 = 0) (M : Mem) (a : Int32) (h : fX0_canBeTurnedBack o0 M = some a) : CtP G l yX0_canBeTurnedBack cX0_canBeTurnedBack 1 (some .boolean) 0 0 [.ref (adr G o0)] M (some (.int a)) M := by
  refine CtP.ofV (by decide) (Nat.le_of_ble_eq_true rfl) ?_
  refine (?_ : T G l RX0 cX0_canBeTurnedBack 1 (some .boolean) (rmOf 0 0) 0 0 (FinM G (some (.int a)) M) (fun x => x = a) 0 [(0, .ref (adr G o0))] [] M (fX0_canBeTurnedBack o0 M)) a h rfl
  clear h
  unfold fX0_canBeTurnedBack
  refine T_aload_n (q := 0) dX0_canBeTurnedBack_0 rfl rfl ?_
  refine T_getI cf0 fr_X0_9 dX0_canBeTurnedBack_1 ho0 rfl ?_
  refine T_if_eq (tgt := 23) dX0_canBeTurnedBack_4 (by decide) (fun hc1 => ?_) (fun hc1 => ?_)
  · refine T_iconst (v := 1) dX0_canBeTurnedBack_23 (by decide) ?_
    refine T_goto (tgt := 28) dX0_canBeTurnedBack_24 (by decide) ?_
    exact T_end (fun h => by cases h; exact V_zret (by decide) dX0_canBeTurnedBack_28)
  · refine T_aload_n (q := 0) dX0_canBeTurnedBack_7 rfl rfl ?_
    refine T_getI cf0 fr_X0_9 dX0_canBeTurnedBack_8 ho0 rfl ?_
    refine T_iconst (v := 1) dX0_canBeTurnedBack_11 (by decide) ?_
    refine T_icmp_eq (tgt := 23) dX0_canBeTurnedBack_12 (by decide) (fun hc2 => ?_) (fun hc2 => ?_)
    · refine T_iconst (v := 1) dX0_canBeTurnedBack_23 (by decide) ?_
      refine T_goto (tgt := 28) dX0_canBeTurnedBack_24 (by decide) ?_
      exact T_end (fun h => by cases h; exact V_zret (by decide) dX0_canBeTurnedBack_28)
    · refine T_aload_n (q := 0) dX0_canBeTurnedBack_15 rfl rfl ?_
      refine T_getI cf0 fr_X0_9 dX0_canBeTurnedBack_16 ho0 rfl ?_
      refine T_iconst (v := 2) dX0_canBeTurnedBack_19 (by decide) ?_
      refine T_icmp_ne (tgt := 27) dX0_canBeTurnedBack_20 (by decide) (fun hc3 => ?_) (fun hc3 => ?_)
      · refine T_iconst (v := 1) dX0_canBeTurnedBack_23 (by decide) ?_
        refine T_goto (tgt := 28) dX0_canBeTurnedBack_24 (by decide) ?_
        exact T_end (fun h => by cases h; exact V_zret (by decide) dX0_canBeTurnedBack_28)
      · refine T_iconst (v := 0) dX0_canBeTurnedBack_27 (by decide) ?_
        exact T_end (fun h => by cases h; exact V_zret (by decide) dX0_canBeTurnedBack_28)
set_option maxHeartbeats 4000000 in
set_option maxRecDepth 100000 in
theorem mX0_receiver (G : Gw) (l : Launch) (o0 : Nat) (ho0 : shp o0 = 0) (M : Mem) (a : Int32) (h : fX0_receiver o0 M = some a) : CtP G l yX0_receiver cX0_receiver 1 (some .int) 0 0 [.ref (adr G o0)] M (some (.int a)) M := by
  refine CtP.ofV (by decide) (Nat.le_of_ble_eq_true rfl) ?_
  refine (?_ : T G l RX0 cX0_receiver 1 (some .int) (rmOf 0 0) 0 0 (FinM G (some (.int a)) M) (fun x => x = a) 0 [(0, .ref (adr G o0))] [] M (fX0_receiver o0 M)) a h rfl
  clear h
  unfold fX0_receiver
  refine T_aload_n (q := 0) dX0_receiver_0 rfl rfl ?_
  refine T_getI cf0 fr_X0_9 dX0_receiver_1 ho0 rfl ?_
  refine T_if_ne (tgt := 14) dX0_receiver_4 (by decide) (fun hc1 => ?_) (fun hc1 => ?_)
  · refine T_aload_n (q := 0) dX0_receiver_7 rfl rfl ?_
    refine T_getI cf0 fr_X0_15 dX0_receiver_8 ho0 rfl ?_
    refine T_goto (tgt := 18) dX0_receiver_11 (by decide) ?_
    exact T_end (fun h => by cases h; exact V_iret dX0_receiver_18)
  · refine T_aload_n (q := 0) dX0_receiver_14 rfl rfl ?_
    refine T_getI cf0 fr_X0_18 dX0_receiver_15 ho0 rfl ?_
    exact T_end (fun h => by cases h; exact V_iret dX0_receiver_18)
set_option maxHeartbeats 4000000 in
set_option maxRecDepth 100000 in
theorem mX4_isSlot (G : Gw) (l : Launch) (x0 : Int32) (M : Mem) (a : Int32) (h : fX4_isSlot x0 = some a) : CtP G l yX4_isSlot cX4_isSlot 1 (some .boolean) 0 0 [.int x0] M (some (.int a)) M := by
  refine CtP.ofV (by decide) (Nat.le_of_ble_eq_true rfl) ?_
  refine (?_ : T G l RX4 cX4_isSlot 1 (some .boolean) (rmOf 0 0) 0 0 (FinM G (some (.int a)) M) (fun x => x = a) 0 [(0, .int x0)] [] M (fX4_isSlot x0)) a h rfl
  clear h
  unfold fX4_isSlot
  refine T_iload_n (q := 0) dX4_isSlot_0 rfl rfl ?_
  refine T_if_lt (tgt := 14) dX4_isSlot_1 (by decide) (fun hc1 => ?_) (fun hc1 => ?_)
  · refine T_iconst (v := 0) dX4_isSlot_14 (by decide) ?_
    exact T_end (fun h => by cases h; exact V_zret (by decide) dX4_isSlot_15)
  · refine T_iload_n (q := 0) dX4_isSlot_4 rfl rfl ?_
    refine T_bipush (v := 10) dX4_isSlot_5 (by decide) ?_
    refine T_icmp_ge (tgt := 14) dX4_isSlot_7 (by decide) (fun hc2 => ?_) (fun hc2 => ?_)
    · refine T_iconst (v := 0) dX4_isSlot_14 (by decide) ?_
      exact T_end (fun h => by cases h; exact V_zret (by decide) dX4_isSlot_15)
    · refine T_iconst (v := 1) dX4_isSlot_10 (by decide) ?_
      refine T_goto (tgt := 15) dX4_isSlot_11 (by decide) ?_
      exact T_end (fun h => by cases h; exact V_zret (by decide) dX4_isSlot_15)
set_option maxHeartbeats 4000000 in
set_option maxRecDepth 100000 in
theorem mX4_heldBy (G : Gw) (l : Launch) (o0 : Nat) (ho0 : shp o0 = 3) (x1 : Int32) (M : Mem) (a : Int64) (h : fX4_heldBy o0 x1 M = some a) : CtP G l yX4_heldBy cX4_heldBy 5 (some .long) 1 20 [.ref (adr G o0), .int x1] M (some (.long a)) M := by
  refine CtP.ofV (by decide) (Nat.le_of_ble_eq_true rfl) ?_
  refine (?_ : T G l RX4 cX4_heldBy 5 (some .long) (rmOf 1 20) 0 0 (FinM G (some (.long a)) M) (fun x => x = a) 0 [(0, .ref (adr G o0)), (1, .int x1)] [] M (fX4_heldBy o0 x1 M)) a h rfl
  clear h
  unfold fX4_heldBy
  refine T_iload_n (q := 1) dX4_heldBy_0 rfl rfl ?_
  refine T_callSi (As := [.int x1]) (st := []) ms_X4_35 (by decide) dX4_heldBy_1 (fun b hb => mX4_isSlot G l x1 M b hb) rfl rfl (Nat.le_of_ble_eq_true rfl) (fun b1 => ?_)
  refine T_if_eq (tgt := 14) dX4_heldBy_4 (by decide) (fun hc2 => ?_) (fun hc2 => ?_)
  · refine T_ldc2 dX4_heldBy_14 kcl_X4_43 ?_
    refine T_lstore_n (lv' := [(2, .long (68719476735 : Int64)), (0, .ref (adr G o0)), (1, .int x1)]) dX4_heldBy_17 rfl (by decide) rfl ?_
    refine T_iconst (v := 0) dX4_heldBy_18 (by decide) ?_
    refine T_istore (lv' := [(4, .int (0 : Int32)), (2, .long (68719476735 : Int64)), (0, .ref (adr G o0)), (1, .int x1)]) dX4_heldBy_19 (by decide) rfl ?_
    refine T_bind (X := fun r7 => V G l RX4 cX4_heldBy 5 (some .long) (rmOf 1 20) 0 0 (FinM G (some (.long a)) M) 48 [(4, .int r7.2), (2, .long r7.1), (0, .ref (adr G o0)), (1, .int x1)] [] M) (T_loop (fun s3 => [(4, .int s3.2), (2, .long s3.1), (0, .ref (adr G o0)), (1, .int x1)]) (fun s3 => M) (fun s3 => ?_) ((68719476735 : Int64), (0 : Int32))) (fun r7 => ?_)
    · unfold wX4_heldBy_21
      refine T_iload (q := 0) dX4_heldBy_21 rfl ?_
      refine T_bipush (v := 10) dX4_heldBy_23 (by decide) ?_
      refine T_icmp_ge (tgt := 48) dX4_heldBy_25 (by decide) (fun hc4 => ?_) (fun hc4 => ?_)
      · exact T_end (fun h => V_sub [0, 1, 2, 3] rfl h)
      · refine T_lload_n (q := 1) dX4_heldBy_28 rfl rfl ?_
        refine T_aload_n (q := 2) dX4_heldBy_29 rfl rfl ?_
        refine T_getR cf3 fr_X4_9 dX4_heldBy_30 ho0 rfl ?_
        refine T_iload (q := 0) dX4_heldBy_33 rfl ?_
        refine T_lald dX4_heldBy_35 (sf_3_0 ho0) ?_
        refine T_ldc2 dX4_heldBy_36 kcl_X4_39 ?_
        refine T_lxor dX4_heldBy_39 ?_
        refine T_land dX4_heldBy_40 ?_
        refine T_lstore_n_G (lv' := fun v5 => [(2, .long v5), (4, .int s3.2), (0, .ref (adr G o0)), (1, .int x1)]) dX4_heldBy_41 rfl (by decide) (fun _ => rfl) (fun v5 => ?_)
        refine T_iinc_G (q := 1) (y := s3.2 + 1) (lv' := fun v6 => [(4, .int v6), (2, .long v5), (0, .ref (adr G o0)), (1, .int x1)]) dX4_heldBy_42 rfl rfl (by decide) (fun _ => rfl) (fun v6 => ?_)
        refine T_goto (tgt := 21) dX4_heldBy_45 (by decide) ?_
        exact T_end (fun h => V_sub [0, 1, 2, 3] rfl h)
    · change T G l RX4 cX4_heldBy 5 (some .long) (rmOf 1 20) 0 0 (FinM G (some (.long a)) M) _ 48 [(4, .int r7.2), (2, .long r7.1), (0, .ref (adr G o0)), (1, .int x1)] [] M _
      refine T_lload_n (q := 1) dX4_heldBy_48 rfl rfl ?_
      exact T_end (fun h => by cases h; exact V_lret dX4_heldBy_49)
  · refine T_aload_n (q := 0) dX4_heldBy_7 rfl rfl ?_
    refine T_getR cf3 fr_X4_9 dX4_heldBy_8 ho0 rfl ?_
    refine T_iload_n (q := 1) dX4_heldBy_11 rfl rfl ?_
    refine T_lald dX4_heldBy_12 (sf_3_0 ho0) ?_
    exact T_end (fun h => by cases h; exact V_lret dX4_heldBy_13)
set_option maxHeartbeats 4000000 in
set_option maxRecDepth 100000 in
theorem mX3_has (G : Gw) (l : Launch) (x0 : Int64) (x2 : Int32) (M : Mem) (a : Int32) (h : fX3_has x0 x2 = some a) : CtP G l yX3_has cX3_has 3 (some .boolean) 0 0 [.long x0, .int x2] M (some (.int a)) M := by
  refine CtP.ofV (by decide) (Nat.le_of_ble_eq_true rfl) ?_
  refine (?_ : T G l RX3 cX3_has 3 (some .boolean) (rmOf 0 0) 0 0 (FinM G (some (.int a)) M) (fun x => x = a) 0 [(0, .long x0), (2, .int x2)] [] M (fX3_has x0 x2)) a h rfl
  clear h
  unfold fX3_has
  refine T_lload_n (q := 0) dX3_has_0 rfl rfl ?_
  refine T_iload_n (q := 1) dX3_has_1 rfl rfl ?_
  refine T_lushr dX3_has_2 ?_
  refine T_lconst (v := 1) dX3_has_3 (by decide) ?_
  refine T_land dX3_has_4 ?_
  refine T_lconst (v := 1) dX3_has_5 (by decide) ?_
  refine T_lcmp dX3_has_6 ?_
  refine T_if_ne (tgt := 14) dX3_has_7 (by decide) (fun hc1 => ?_) (fun hc1 => ?_)
  · refine T_iconst (v := 1) dX3_has_10 (by decide) ?_
    refine T_goto (tgt := 15) dX3_has_11 (by decide) ?_
    exact T_end (fun h => by cases h; exact V_zret (by decide) dX3_has_15)
  · refine T_iconst (v := 0) dX3_has_14 (by decide) ?_
    exact T_end (fun h => by cases h; exact V_zret (by decide) dX3_has_15)
set_option maxHeartbeats 4000000 in
set_option maxRecDepth 100000 in
theorem mX3_firstOf (G : Gw) (l : Launch) (x0 : Int64) (M : Mem) (a : Int32) (h : fX3_firstOf x0 = some a) : CtP G l yX3_firstOf cX3_firstOf 3 (some .int) 1 22 [.long x0] M (some (.int a)) M := by
  refine CtP.ofV (by decide) (Nat.le_of_ble_eq_true rfl) ?_
  refine (?_ : T G l RX3 cX3_firstOf 3 (some .int) (rmOf 1 22) 0 0 (FinM G (some (.int a)) M) (fun x => x = a) 0 [(0, .long x0)] [] M (fX3_firstOf x0)) a h rfl
  clear h
  unfold fX3_firstOf
  refine T_iconst (v := 0) dX3_firstOf_0 (by decide) ?_
  refine T_istore_n (lv' := [(2, .int (0 : Int32)), (0, .long x0)]) dX3_firstOf_1 rfl (by decide) rfl ?_
  refine T_loop (fun s1 => [(2, .int s1), (0, .long x0)]) (fun s1 => M) (fun s1 => ?_) (0 : Int32)
  unfold wX3_firstOf_2
  refine T_iload_n (q := 0) dX3_firstOf_2 rfl rfl ?_
  refine T_bipush (v := 36) dX3_firstOf_3 (by decide) ?_
  refine T_icmp_ge (tgt := 24) dX3_firstOf_5 (by decide) (fun hc2 => ?_) (fun hc2 => ?_)
  · refine T_bipush (v := 36) dX3_firstOf_24 (by decide) ?_
    exact T_end (fun h => by cases h; exact V_iret dX3_firstOf_26)
  · refine T_lload_n (q := 1) dX3_firstOf_8 rfl rfl ?_
    refine T_iload_n (q := 0) dX3_firstOf_9 rfl rfl ?_
    refine T_callSi (As := [.long x0, .int s1]) (st := []) ms_X3_39 (by decide) dX3_firstOf_10 (fun b hb => mX3_has G l x0 s1 M b hb) rfl rfl (Nat.le_of_ble_eq_true rfl) (fun b3 => ?_)
    refine T_if_eq (tgt := 18) dX3_firstOf_13 (by decide) (fun hc4 => ?_) (fun hc4 => ?_)
    · refine T_iinc_G (q := 0) (y := s1 + 1) (lv' := fun v5 => [(2, .int v5), (0, .long x0)]) dX3_firstOf_18 rfl rfl (by decide) (fun _ => rfl) (fun v5 => ?_)
      refine T_goto (tgt := 2) dX3_firstOf_21 (by decide) ?_
      exact T_end (fun h => V_sub [0, 1] rfl h)
    · refine T_iload_n (q := 0) dX3_firstOf_16 rfl rfl ?_
      exact T_end (fun h => by cases h; exact V_iret dX3_firstOf_17)
set_option maxHeartbeats 4000000 in
set_option maxRecDepth 100000 in
theorem mX4_becomeLike (G : Gw) (l : Launch) (o0 : Nat) (ho0 : shp o0 = 3) (o1 : Nat) (ho1 : shp o1 = 3) (M : Mem) (a : Mem) (h : fX4_becomeLike o0 o1 M = some a) : CtP G l yX4_becomeLike cX4_becomeLike 2 none 1 18 [.ref (adr G o0), .ref (adr G o1)] M (none) a := by
  refine CtP.ofV (by decide) (Nat.le_of_ble_eq_true rfl) ?_
  refine (?_ : T G l RX4 cX4_becomeLike 2 none (rmOf 1 18) 0 0 (FinM G (none) a) (fun x => x = a) 0 [(0, .ref (adr G o0)), (1, .ref (adr G o1))] [] M (fX4_becomeLike o0 o1 M)) a h rfl
  clear h
  unfold fX4_becomeLike
  refine T_aload_n (q := 1) dX4_becomeLike_0 rfl rfl ?_
  refine T_getR cf3 fr_X4_9 dX4_becomeLike_1 ho1 rfl ?_
  refine T_iconst (v := 0) dX4_becomeLike_4 (by decide) ?_
  refine T_aload_n (q := 0) dX4_becomeLike_5 rfl rfl ?_
  refine T_getR cf3 fr_X4_9 dX4_becomeLike_6 ho0 rfl ?_
  refine T_iconst (v := 0) dX4_becomeLike_9 (by decide) ?_
  refine T_bipush (v := 10) dX4_becomeLike_10 (by decide) ?_
  refine T_cpl aw_X4_25 ⟨by decide, Nat.le_of_ble_eq_true rfl⟩ dX4_becomeLike_12 (sf_3_0 ho1) (sf_3_0 ho0) (fun M1 => ?_)
  refine T_aload_n (q := 1) dX4_becomeLike_15 rfl rfl ?_
  refine T_getR cf3 fr_X4_15 dX4_becomeLike_16 ho1 rfl ?_
  refine T_iconst (v := 0) dX4_becomeLike_19 (by decide) ?_
  refine T_aload_n (q := 0) dX4_becomeLike_20 rfl rfl ?_
  refine T_getR cf3 fr_X4_15 dX4_becomeLike_21 ho0 rfl ?_
  refine T_iconst (v := 0) dX4_becomeLike_24 (by decide) ?_
  refine T_bipush (v := 10) dX4_becomeLike_25 (by decide) ?_
  refine T_cpi aw_X4_25 ⟨by decide, Nat.le_of_ble_eq_true rfl⟩ dX4_becomeLike_27 (sf_3_1 ho1) (sf_3_1 ho0) (fun M2 => ?_)
  refine T_aload_n (q := 0) dX4_becomeLike_30 rfl rfl ?_
  refine T_aload_n (q := 1) dX4_becomeLike_31 rfl rfl ?_
  refine T_getI cf3 fr_X4_31 dX4_becomeLike_32 ho1 rfl ?_
  refine T_putI cf3 fr_X4_31 pt_3_2 dX4_becomeLike_35 ho0 rfl (fun M3 => ?_)
  exact T_end (fun h => by cases h; exact V_vret dX4_becomeLike_38)
set_option maxHeartbeats 4000000 in
set_option maxRecDepth 100000 in
theorem mX4_isThere (G : Gw) (l : Launch) (o0 : Nat) (ho0 : shp o0 = 3) (x1 : Int32) (M : Mem) (a : Int32) (h : fX4_isThere o0 x1 M = some a) : CtP G l yX4_isThere cX4_isThere 2 (some .boolean) 1 20 [.ref (adr G o0), .int x1] M (some (.int a)) M := by
  refine CtP.ofV (by decide) (Nat.le_of_ble_eq_true rfl) ?_
  refine (?_ : T G l RX4 cX4_isThere 2 (some .boolean) (rmOf 1 20) 0 0 (FinM G (some (.int a)) M) (fun x => x = a) 0 [(0, .ref (adr G o0)), (1, .int x1)] [] M (fX4_isThere o0 x1 M)) a h rfl
  clear h
  unfold fX4_isThere
  refine T_iload_n (q := 1) dX4_isThere_0 rfl rfl ?_
  refine T_callSi (As := [.int x1]) (st := []) ms_X4_35 (by decide) dX4_isThere_1 (fun b hb => mX4_isSlot G l x1 M b hb) rfl rfl (Nat.le_of_ble_eq_true rfl) (fun b1 => ?_)
  refine T_if_eq (tgt := 23) dX4_isThere_4 (by decide) (fun hc2 => ?_) (fun hc2 => ?_)
  · refine T_iconst (v := 0) dX4_isThere_23 (by decide) ?_
    exact T_end (fun h => by cases h; exact V_zret (by decide) dX4_isThere_24)
  · refine T_aload_n (q := 0) dX4_isThere_7 rfl rfl ?_
    refine T_getI cf3 fr_X4_31 dX4_isThere_8 ho0 rfl ?_
    refine T_iload_n (q := 1) dX4_isThere_11 rfl rfl ?_
    refine T_iushr dX4_isThere_12 ?_
    refine T_iconst (v := 1) dX4_isThere_13 (by decide) ?_
    refine T_iand dX4_isThere_14 ?_
    refine T_iconst (v := 1) dX4_isThere_15 (by decide) ?_
    refine T_icmp_ne (tgt := 23) dX4_isThere_16 (by decide) (fun hc3 => ?_) (fun hc3 => ?_)
    · refine T_iconst (v := 1) dX4_isThere_19 (by decide) ?_
      refine T_goto (tgt := 24) dX4_isThere_20 (by decide) ?_
      exact T_end (fun h => by cases h; exact V_zret (by decide) dX4_isThere_24)
    · refine T_iconst (v := 0) dX4_isThere_23 (by decide) ?_
      exact T_end (fun h => by cases h; exact V_zret (by decide) dX4_isThere_24)
set_option maxHeartbeats 4000000 in
set_option maxRecDepth 100000 in
theorem mX4_arrive (G : Gw) (l : Launch) (o0 : Nat) (ho0 : shp o0 = 3) (x1 : Int32) (M : Mem) (a : Mem) (h : fX4_arrive o0 x1 M = some a) : CtP G l yX4_arrive cX4_arrive 2 none 1 20 [.ref (adr G o0), .int x1] M (none) a := by
  refine CtP.ofV (by decide) (Nat.le_of_ble_eq_true rfl) ?_
  refine (?_ : T G l RX4 cX4_arrive 2 none (rmOf 1 20) 0 0 (FinM G (none) a) (fun x => x = a) 0 [(0, .ref (adr G o0)), (1, .int x1)] [] M (fX4_arrive o0 x1 M)) a h rfl
  clear h
  unfold fX4_arrive
  refine T_iload_n (q := 1) dX4_arrive_0 rfl rfl ?_
  refine T_callSi (As := [.int x1]) (st := []) ms_X4_35 (by decide) dX4_arrive_1 (fun b hb => mX4_isSlot G l x1 M b hb) rfl rfl (Nat.le_of_ble_eq_true rfl) (fun b1 => ?_)
  refine T_if_eq (tgt := 19) dX4_arrive_4 (by decide) (fun hc2 => ?_) (fun hc2 => ?_)
  · exact T_end (fun h => by cases h; exact V_vret dX4_arrive_19)
  · refine T_aload_n (q := 0) dX4_arrive_7 rfl rfl ?_
    refine T_dup dX4_arrive_8 rfl ?_
    refine T_getI cf3 fr_X4_31 dX4_arrive_9 ho0 rfl ?_
    refine T_iconst (v := 1) dX4_arrive_12 (by decide) ?_
    refine T_iload_n (q := 1) dX4_arrive_13 rfl rfl ?_
    refine T_ishl dX4_arrive_14 ?_
    refine T_ior dX4_arrive_15 ?_
    refine T_putI cf3 fr_X4_31 pt_3_2 dX4_arrive_16 ho0 rfl (fun M3 => ?_)
    exact T_end (fun h => by cases h; exact V_vret dX4_arrive_19)
set_option maxHeartbeats 4000000 in
set_option maxRecDepth 100000 in
theorem mX4_give (G : Gw) (l : Launch) (o0 : Nat) (ho0 : shp o0 = 3) (x1 : Int64) (x3 : Int32) (M : Mem) (a : Mem) (h : fX4_give o0 x1 x3 M = some a) : CtP G l yX4_give cX4_give 5 none 1 20 [.ref (adr G o0), .long x1, .int x3] M (none) a := by
  refine CtP.ofV (by decide) (Nat.le_of_ble_eq_true rfl) ?_
  refine (?_ : T G l RX4 cX4_give 5 none (rmOf 1 20) 0 0 (FinM G (none) a) (fun x => x = a) 0 [(0, .ref (adr G o0)), (1, .long x1), (3, .int x3)] [] M (fX4_give o0 x1 x3 M)) a h rfl
  clear h
  unfold fX4_give
  refine T_iconst (v := 0) dX4_give_0 (by decide) ?_
  refine T_istore (lv' := [(4, .int (0 : Int32)), (0, .ref (adr G o0)), (1, .long x1), (3, .int x3)]) dX4_give_1 (by decide) rfl ?_
  refine T_bind (X := fun r5 => V G l RX4 cX4_give 5 none (rmOf 1 20) 0 0 (FinM G (none) a) 31 [(4, .int r5.1), (0, .ref (adr G o0)), (1, .long x1), (3, .int x3)] [] r5.2) (T_loop (fun s1 => [(4, .int s1.1), (0, .ref (adr G o0)), (1, .long x1), (3, .int x3)]) (fun s1 => s1.2) (fun s1 => ?_) ((0 : Int32), M)) (fun r5 => ?_)
  · unfold wX4_give_3
    refine T_iload (q := 0) dX4_give_3 rfl ?_
    refine T_bipush (v := 10) dX4_give_5 (by decide) ?_
    refine T_icmp_ge (tgt := 31) dX4_give_7 (by decide) (fun hc2 => ?_) (fun hc2 => ?_)
    · exact T_end (fun h => V_sub [0, 1, 2, 3] rfl h)
    · refine T_aload_n (q := 1) dX4_give_10 rfl rfl ?_
      refine T_getR cf3 fr_X4_9 dX4_give_11 ho0 rfl ?_
      refine T_iload (q := 0) dX4_give_14 rfl ?_
      refine T_dup2_11 dX4_give_16 rfl rfl ?_
      refine T_lald dX4_give_17 (sf_3_0 ho0) ?_
      refine T_lload_n (q := 2) dX4_give_18 rfl rfl ?_
      refine T_ldc2 dX4_give_19 kcl_X4_39 ?_
      refine T_lxor dX4_give_22 ?_
      refine T_land dX4_give_23 ?_
      refine T_last dX4_give_24 (sf_3_0 ho0) (fun M3 => ?_)
      refine T_iinc_G (q := 0) (y := s1.1 + 1) (lv' := fun v4 => [(4, .int v4), (0, .ref (adr G o0)), (1, .long x1), (3, .int x3)]) dX4_give_25 rfl rfl (by decide) (fun _ => rfl) (fun v4 => ?_)
      refine T_goto (tgt := 3) dX4_give_28 (by decide) ?_
      exact T_end (fun h => V_sub [0, 1, 2, 3] rfl h)
  · change T G l RX4 cX4_give 5 none (rmOf 1 20) 0 0 (FinM G (none) a) _ 31 [(4, .int r5.1), (0, .ref (adr G o0)), (1, .long x1), (3, .int x3)] [] r5.2 _
    refine T_iload_n (q := 3) dX4_give_31 rfl rfl ?_
    refine T_callSi (As := [.int x3]) (st := []) ms_X4_35 (by decide) dX4_give_32 (fun b hb => mX4_isSlot G l x3 r5.2 b hb) rfl rfl (Nat.le_of_ble_eq_true rfl) (fun b6 => ?_)
    refine T_if_eq (tgt := 48) dX4_give_35 (by decide) (fun hc7 => ?_) (fun hc7 => ?_)
    · exact T_end (fun h => by cases h; exact V_vret dX4_give_48)
    · refine T_aload_n (q := 1) dX4_give_38 rfl rfl ?_
      refine T_getR cf3 fr_X4_9 dX4_give_39 ho0 rfl ?_
      refine T_iload_n (q := 3) dX4_give_42 rfl rfl ?_
      refine T_dup2_11 dX4_give_43 rfl rfl ?_
      refine T_lald dX4_give_44 (sf_3_0 ho0) ?_
      refine T_lload_n (q := 2) dX4_give_45 rfl rfl ?_
      refine T_lor dX4_give_46 ?_
      refine T_last dX4_give_47 (sf_3_0 ho0) (fun M8 => ?_)
      exact T_end (fun h => by cases h; exact V_vret dX4_give_48)
set_option maxHeartbeats 4000000 in
set_option maxRecDepth 100000 in
theorem mX4_leave (G : Gw) (l : Launch) (o0 : Nat) (ho0 : shp o0 = 3) (x1 : Int32) (M : Mem) (a : Mem) (h : fX4_leave o0 x1 M = some a) : CtP G l yX4_leave cX4_leave 2 none 1 20 [.ref (adr G o0), .int x1] M (none) a := by
  refine CtP.ofV (by decide) (Nat.le_of_ble_eq_true rfl) ?_
  refine (?_ : T G l RX4 cX4_leave 2 none (rmOf 1 20) 0 0 (FinM G (none) a) (fun x => x = a) 0 [(0, .ref (adr G o0)), (1, .int x1)] [] M (fX4_leave o0 x1 M)) a h rfl
  clear h
  unfold fX4_leave
  refine T_iload_n (q := 1) dX4_leave_0 rfl rfl ?_
  refine T_callSi (As := [.int x1]) (st := []) ms_X4_35 (by decide) dX4_leave_1 (fun b hb => mX4_isSlot G l x1 M b hb) rfl rfl (Nat.le_of_ble_eq_true rfl) (fun b1 => ?_)
  refine T_if_eq (tgt := 29) dX4_leave_4 (by decide) (fun hc2 => ?_) (fun hc2 => ?_)
  · exact T_end (fun h => by cases h; exact V_vret dX4_leave_29)
  · refine T_aload_n (q := 0) dX4_leave_7 rfl rfl ?_
    refine T_dup dX4_leave_8 rfl ?_
    refine T_getI cf3 fr_X4_31 dX4_leave_9 ho0 rfl ?_
    refine T_iconst (v := 1) dX4_leave_12 (by decide) ?_
    refine T_iload_n (q := 1) dX4_leave_13 rfl rfl ?_
    refine T_ishl dX4_leave_14 ?_
    refine T_iconst (v := -1) dX4_leave_15 (by decide) ?_
    refine T_ixor dX4_leave_16 ?_
    refine T_iand dX4_leave_17 ?_
    refine T_putI cf3 fr_X4_31 pt_3_2 dX4_leave_18 ho0 rfl (fun M3 => ?_)
    refine T_aload_n (q := 0) dX4_leave_21 rfl rfl ?_
    refine T_getR cf3 fr_X4_15 dX4_leave_22 ho0 rfl ?_
    refine T_iload_n (q := 1) dX4_leave_25 rfl rfl ?_
    refine T_bipush (v := 10) dX4_leave_26 (by decide) ?_
    refine T_iast dX4_leave_28 (sf_3_1 ho0) (fun M4 => ?_)
    exact T_end (fun h => by cases h; exact V_vret dX4_leave_29)
set_option maxHeartbeats 4000000 in
set_option maxRecDepth 100000 in
theorem mX4_putUnder (G : Gw) (l : Launch) (o0 : Nat) (ho0 : shp o0 = 3) (x1 : Int32) (x2 : Int32) (M : Mem) (a : Mem) (h : fX4_putUnder o0 x1 x2 M = some a) : CtP G l yX4_putUnder cX4_putUnder 3 none 1 20 [.ref (adr G o0), .int x1, .int x2] M (none) a := by
  refine CtP.ofV (by decide) (Nat.le_of_ble_eq_true rfl) ?_
  refine (?_ : T G l RX4 cX4_putUnder 3 none (rmOf 1 20) 0 0 (FinM G (none) a) (fun x => x = a) 0 [(0, .ref (adr G o0)), (1, .int x1), (2, .int x2)] [] M (fX4_putUnder o0 x1 x2 M)) a h rfl
  clear h
  unfold fX4_putUnder
  refine T_iload_n (q := 1) dX4_putUnder_0 rfl rfl ?_
  refine T_callSi (As := [.int x1]) (st := []) ms_X4_35 (by decide) dX4_putUnder_1 (fun b hb => mX4_isSlot G l x1 M b hb) rfl rfl (Nat.le_of_ble_eq_true rfl) (fun b1 => ?_)
  refine T_if_eq (tgt := 14) dX4_putUnder_4 (by decide) (fun hc2 => ?_) (fun hc2 => ?_)
  · exact T_end (fun h => by cases h; exact V_vret dX4_putUnder_14)
  · refine T_aload_n (q := 0) dX4_putUnder_7 rfl rfl ?_
    refine T_getR cf3 fr_X4_15 dX4_putUnder_8 ho0 rfl ?_
    refine T_iload_n (q := 1) dX4_putUnder_11 rfl rfl ?_
    refine T_iload_n (q := 2) dX4_putUnder_12 rfl rfl ?_
    refine T_iast dX4_putUnder_13 (sf_3_1 ho0) (fun M3 => ?_)
    exact T_end (fun h => by cases h; exact V_vret dX4_putUnder_14)
set_option maxHeartbeats 4000000 in
set_option maxRecDepth 100000 in
theorem mX4_heldUnder (G : Gw) (l : Launch) (o0 : Nat) (ho0 : shp o0 = 3) (x1 : Int32) (M : Mem) (a : Int64) (h : fX4_heldUnder o0 x1 M = some a) : CtP G l yX4_heldUnder cX4_heldUnder 5 (some .long) 0 0 [.ref (adr G o0), .int x1] M (some (.long a)) M := by
  refine CtP.ofV (by decide) (Nat.le_of_ble_eq_true rfl) ?_
  refine (?_ : T G l RX4 cX4_heldUnder 5 (some .long) (rmOf 0 0) 0 0 (FinM G (some (.long a)) M) (fun x => x = a) 0 [(0, .ref (adr G o0)), (1, .int x1)] [] M (fX4_heldUnder o0 x1 M)) a h rfl
  clear h
  unfold fX4_heldUnder
  refine T_lconst (v := 0) dX4_heldUnder_0 (by decide) ?_
  refine T_lstore_n (lv' := [(2, .long (0 : Int64)), (0, .ref (adr G o0)), (1, .int x1)]) dX4_heldUnder_1 rfl (by decide) rfl ?_
  refine T_iconst (v := 0) dX4_heldUnder_2 (by decide) ?_
  refine T_istore (lv' := [(4, .int (0 : Int32)), (2, .long (0 : Int64)), (0, .ref (adr G o0)), (1, .int x1)]) dX4_heldUnder_3 (by decide) rfl ?_
  refine T_bind (X := fun r7 => V G l RX4 cX4_heldUnder 5 (some .long) (rmOf 0 0) 0 0 (FinM G (some (.long a)) M) 39 [(4, .int r7.2), (2, .long r7.1), (0, .ref (adr G o0)), (1, .int x1)] [] M) (T_loop (fun s1 => [(4, .int s1.2), (2, .long s1.1), (0, .ref (adr G o0)), (1, .int x1)]) (fun s1 => M) (fun s1 => ?_) ((0 : Int64), (0 : Int32))) (fun r7 => ?_)
  · unfold wX4_heldUnder_5
    refine T_iload (q := 0) dX4_heldUnder_5 rfl ?_
    refine T_bipush (v := 10) dX4_heldUnder_7 (by decide) ?_
    refine T_icmp_ge (tgt := 39) dX4_heldUnder_9 (by decide) (fun hc2 => ?_) (fun hc2 => ?_)
    · exact T_end (fun h => V_sub [0, 1, 2, 3] rfl h)
    · refine T_aload_n (q := 2) dX4_heldUnder_12 rfl rfl ?_
      refine T_getR cf3 fr_X4_15 dX4_heldUnder_13 ho0 rfl ?_
      refine T_iload (q := 0) dX4_heldUnder_16 rfl ?_
      refine T_iald dX4_heldUnder_18 (sf_3_1 ho0) ?_
      refine T_iload_n (q := 3) dX4_heldUnder_19 rfl rfl ?_
      refine T_icmp_ne (tgt := 33) dX4_heldUnder_20 (by decide) (fun hc3 => ?_) (fun hc3 => ?_)
      · refine T_lload_n (q := 1) dX4_heldUnder_23 rfl rfl ?_
        refine T_aload_n (q := 2) dX4_heldUnder_24 rfl rfl ?_
        refine T_getR cf3 fr_X4_9 dX4_heldUnder_25 ho0 rfl ?_
        refine T_iload (q := 0) dX4_heldUnder_28 rfl ?_
        refine T_lald dX4_heldUnder_30 (sf_3_0 ho0) ?_
        refine T_lor dX4_heldUnder_31 ?_
        refine T_lstore_n_G (lv' := fun v4 => [(2, .long v4), (4, .int s1.2), (0, .ref (adr G o0)), (1, .int x1)]) dX4_heldUnder_32 rfl (by decide) (fun _ => rfl) (fun v4 => ?_)
        refine T_iinc_G (q := 1) (y := s1.2 + 1) (lv' := fun v5 => [(4, .int v5), (2, .long v4), (0, .ref (adr G o0)), (1, .int x1)]) dX4_heldUnder_33 rfl rfl (by decide) (fun _ => rfl) (fun v5 => ?_)
        refine T_goto (tgt := 5) dX4_heldUnder_36 (by decide) ?_
        exact T_end (fun h => V_sub [0, 1, 2, 3] rfl h)
      · refine T_iinc_G (q := 0) (y := s1.2 + 1) (lv' := fun v6 => [(4, .int v6), (2, .long s1.1), (0, .ref (adr G o0)), (1, .int x1)]) dX4_heldUnder_33 rfl rfl (by decide) (fun _ => rfl) (fun v6 => ?_)
        refine T_goto (tgt := 5) dX4_heldUnder_36 (by decide) ?_
        exact T_end (fun h => V_sub [0, 1, 2, 3] rfl h)
  · change T G l RX4 cX4_heldUnder 5 (some .long) (rmOf 0 0) 0 0 (FinM G (some (.long a)) M) _ 39 [(4, .int r7.2), (2, .long r7.1), (0, .ref (adr G o0)), (1, .int x1)] [] M _
    refine T_lload_n (q := 1) dX4_heldUnder_39 rfl rfl ?_
    exact T_end (fun h => by cases h; exact V_lret dX4_heldUnder_40)
set_option maxHeartbeats 4000000 in
set_option maxRecDepth 100000 in
theorem mX4_holderOf (G : Gw) (l : Launch) (o0 : Nat) (ho0 : shp o0 = 3) (x1 : Int32) (M : Mem) (a : Int32) (h : fX4_holderOf o0 x1 M = some a) : CtP G l yX4_holderOf cX4_holderOf 3 (some .int) 1 22 [.ref (adr G o0), .int x1] M (some (.int a)) M := by
  refine CtP.ofV (by decide) (Nat.le_of_ble_eq_true rfl) ?_
  refine (?_ : T G l RX4 cX4_holderOf 3 (some .int) (rmOf 1 22) 0 0 (FinM G (some (.int a)) M) (fun x => x = a) 0 [(0, .ref (adr G o0)), (1, .int x1)] [] M (fX4_holderOf o0 x1 M)) a h rfl
  clear h
  unfold fX4_holderOf
  refine T_iconst (v := 0) dX4_holderOf_0 (by decide) ?_
  refine T_istore_n (lv' := [(2, .int (0 : Int32)), (0, .ref (adr G o0)), (1, .int x1)]) dX4_holderOf_1 rfl (by decide) rfl ?_
  refine T_loop (fun s1 => [(2, .int s1), (0, .ref (adr G o0)), (1, .int x1)]) (fun s1 => M) (fun s1 => ?_) (0 : Int32)
  unfold wX4_holderOf_2
  refine T_iload_n (q := 0) dX4_holderOf_2 rfl rfl ?_
  refine T_bipush (v := 10) dX4_holderOf_3 (by decide) ?_
  refine T_icmp_ge (tgt := 29) dX4_holderOf_5 (by decide) (fun hc2 => ?_) (fun hc2 => ?_)
  · refine T_bipush (v := 10) dX4_holderOf_29 (by decide) ?_
    exact T_end (fun h => by cases h; exact V_iret dX4_holderOf_31)
  · refine T_aload_n (q := 1) dX4_holderOf_8 rfl rfl ?_
    refine T_getR cf3 fr_X4_9 dX4_holderOf_9 ho0 rfl ?_
    refine T_iload_n (q := 0) dX4_holderOf_12 rfl rfl ?_
    refine T_lald dX4_holderOf_13 (sf_3_0 ho0) ?_
    refine T_iload_n (q := 2) dX4_holderOf_14 rfl rfl ?_
    refine T_callSi (As := [.long (M.2 (rf o0 0) s1.toNatClampNeg), .int x1]) (st := []) ms_X4_45 (by decide) dX4_holderOf_15 (fun b hb => mX3_has G l (M.2 (rf o0 0) s1.toNatClampNeg) x1 M b hb) rfl rfl (Nat.le_of_ble_eq_true rfl) (fun b3 => ?_)
    refine T_if_eq (tgt := 23) dX4_holderOf_18 (by decide) (fun hc4 => ?_) (fun hc4 => ?_)
    · refine T_iinc_G (q := 0) (y := s1 + 1) (lv' := fun v5 => [(2, .int v5), (0, .ref (adr G o0)), (1, .int x1)]) dX4_holderOf_23 rfl rfl (by decide) (fun _ => rfl) (fun v5 => ?_)
      refine T_goto (tgt := 2) dX4_holderOf_26 (by decide) ?_
      exact T_end (fun h => V_sub [0, 1, 2] rfl h)
    · refine T_iload_n (q := 0) dX4_holderOf_21 rfl rfl ?_
      exact T_end (fun h => by cases h; exact V_iret dX4_holderOf_22)
set_option maxHeartbeats 4000000 in
set_option maxRecDepth 100000 in
theorem mX4_hasBorder (G : Gw) (l : Launch) (o0 : Nat) (ho0 : shp o0 = 3) (x1 : Int32) (x2 : Int32) (M : Mem) (a : Int32) (h : fX4_hasBorder o0 x1 x2 M = some a) : CtP G l yX4_hasBorder cX4_hasBorder 3 (some .boolean) 2 44 [.ref (adr G o0), .int x1, .int x2] M (some (.int a)) M := by
  refine CtP.ofV (by decide) (Nat.le_of_ble_eq_true rfl) ?_
  refine (?_ : T G l RX4 cX4_hasBorder 3 (some .boolean) (rmOf 2 44) 0 0 (FinM G (some (.int a)) M) (fun x => x = a) 0 [(0, .ref (adr G o0)), (1, .int x1), (2, .int x2)] [] M (fX4_hasBorder o0 x1 x2 M)) a h rfl
  clear h
  unfold fX4_hasBorder
  refine T_aload_n (q := 0) dX4_hasBorder_0 rfl rfl ?_
  refine T_iload_n (q := 1) dX4_hasBorder_1 rfl rfl ?_
  refine T_callVi (As := [.int x1]) (st := []) mv_X4_49 (by decide) dX4_hasBorder_2 ho0 (fun b hb => mX4_holderOf G l o0 ho0 x1 M b hb) rfl rfl (Nat.le_of_ble_eq_true rfl) (fun b1 => ?_)
  refine T_aload_n (q := 0) dX4_hasBorder_5 rfl rfl ?_
  refine T_iload_n (q := 2) dX4_hasBorder_6 rfl rfl ?_
  refine T_callVi (As := [.int x2]) (st := [.int b1]) mv_X4_49 (by decide) dX4_hasBorder_7 ho0 (fun b hb => mX4_holderOf G l o0 ho0 x2 M b hb) rfl rfl (Nat.le_of_ble_eq_true rfl) (fun b2 => ?_)
  refine T_icmp_eq (tgt := 17) dX4_hasBorder_10 (by decide) (fun hc3 => ?_) (fun hc3 => ?_)
  · refine T_iconst (v := 0) dX4_hasBorder_17 (by decide) ?_
    exact T_end (fun h => by cases h; exact V_zret (by decide) dX4_hasBorder_18)
  · refine T_iconst (v := 1) dX4_hasBorder_13 (by decide) ?_
    refine T_goto (tgt := 18) dX4_hasBorder_14 (by decide) ?_
    exact T_end (fun h => by cases h; exact V_zret (by decide) dX4_hasBorder_18)
set_option maxHeartbeats 4000000 in
set_option maxRecDepth 100000 in
theorem mX3_areBeside (G : Gw) (l : Launch) (x0 : Int32) (x1 : Int32) (M : Mem) (a : Int32) (h : fX3_areBeside x0 x1 = some a) : CtP G l yX3_areBeside cX3_areBeside 3 (some .boolean) 1 20 [.int x0, .int x1] M (some (.int a)) M := by
  refine CtP.ofV (by decide) (Nat.le_of_ble_eq_true rfl) ?_
  refine (?_ : T G l RX3 cX3_areBeside 3 (some .boolean) (rmOf 1 20) 0 0 (FinM G (some (.int a)) M) (fun x => x = a) 0 [(0, .int x0), (1, .int x1)] [] M (fX3_areBeside x0 x1)) a h rfl
  clear h
  unfold fX3_areBeside
  refine T_iload_n (q := 0) dX3_areBeside_0 rfl rfl ?_
  refine T_iload_n (q := 1) dX3_areBeside_1 rfl rfl ?_
  refine T_isub dX3_areBeside_2 ?_
  refine T_mabs ab_X3_13 ⟨by decide, Nat.le_of_ble_eq_true rfl⟩ (by decide) dX3_areBeside_3 ?_
  refine T_istore_n_G (lv' := fun v1 => [(2, .int v1), (0, .int x0), (1, .int x1)]) dX3_areBeside_6 rfl (by decide) (fun _ => rfl) (fun v1 => ?_)
  refine T_iload_n (q := 0) dX3_areBeside_7 rfl rfl ?_
  refine T_bipush (v := 6) dX3_areBeside_8 (by decide) ?_
  refine T_icmp_eq (tgt := 29) dX3_areBeside_10 (by decide) (fun hc2 => ?_) (fun hc2 => ?_)
  · refine T_iconst (v := 1) dX3_areBeside_29 (by decide) ?_
    refine T_goto (tgt := 34) dX3_areBeside_30 (by decide) ?_
    exact T_end (fun h => by cases h; exact V_zret (by decide) dX3_areBeside_34)
  · refine T_iload_n (q := 0) dX3_areBeside_13 rfl rfl ?_
    refine T_iconst (v := 1) dX3_areBeside_14 (by decide) ?_
    refine T_icmp_ne (tgt := 33) dX3_areBeside_15 (by decide) (fun hc3 => ?_) (fun hc3 => ?_)
    · refine T_iload_n (q := 1) dX3_areBeside_18 rfl rfl ?_
      refine T_bipush (v := 6) dX3_areBeside_19 (by decide) ?_
      refine T_idiv dX3_areBeside_21 ?_
      refine T_iload_n (q := 2) dX3_areBeside_22 rfl rfl ?_
      refine T_bipush (v := 6) dX3_areBeside_23 (by decide) ?_
      refine T_idiv dX3_areBeside_25 ?_
      refine T_icmp_ne (tgt := 33) dX3_areBeside_26 (by decide) (fun hc4 => ?_) (fun hc4 => ?_)
      · refine T_iconst (v := 1) dX3_areBeside_29 (by decide) ?_
        refine T_goto (tgt := 34) dX3_areBeside_30 (by decide) ?_
        exact T_end (fun h => by cases h; exact V_zret (by decide) dX3_areBeside_34)
      · refine T_iconst (v := 0) dX3_areBeside_33 (by decide) ?_
        exact T_end (fun h => by cases h; exact V_zret (by decide) dX3_areBeside_34)
    · refine T_iconst (v := 0) dX3_areBeside_33 (by decide) ?_
      exact T_end (fun h => by cases h; exact V_zret (by decide) dX3_areBeside_34)
set_option maxHeartbeats 4000000 in
set_option maxRecDepth 100000 in
theorem mX3_down (G : Gw) (l : Launch) (x0 : Int64) (M : Mem) (a : Int64) (h : fX3_down x0 = some a) : CtP G l yX3_down cX3_down 2 (some .long) 0 0 [.long x0] M (some (.long a)) M := by
  refine CtP.ofV (by decide) (Nat.le_of_ble_eq_true rfl) ?_
  refine (?_ : T G l RX3 cX3_down 2 (some .long) (rmOf 0 0) 0 0 (FinM G (some (.long a)) M) (fun x => x = a) 0 [(0, .long x0)] [] M (fX3_down x0)) a h rfl
  clear h
  unfold fX3_down
  refine T_lload_n (q := 0) dX3_down_0 rfl rfl ?_
  refine T_bipush (v := 6) dX3_down_1 (by decide) ?_
  refine T_lshl dX3_down_3 ?_
  refine T_ldc2 dX3_down_4 kcl_X3_19 ?_
  refine T_land dX3_down_7 ?_
  exact T_end (fun h => by cases h; exact V_lret dX3_down_8)
set_option maxHeartbeats 4000000 in
set_option maxRecDepth 100000 in
theorem mX3_right (G : Gw) (l : Launch) (x0 : Int64) (M : Mem) (a : Int64) (h : fX3_right x0 = some a) : CtP G l yX3_right cX3_right 2 (some .long) 0 0 [.long x0] M (some (.long a)) M := by
  refine CtP.ofV (by decide) (Nat.le_of_ble_eq_true rfl) ?_
  refine (?_ : T G l RX3 cX3_right 2 (some .long) (rmOf 0 0) 0 0 (FinM G (some (.long a)) M) (fun x => x = a) 0 [(0, .long x0)] [] M (fX3_right x0)) a h rfl
  clear h
  unfold fX3_right
  refine T_lload_n (q := 0) dX3_right_0 rfl rfl ?_
  refine T_iconst (v := 1) dX3_right_1 (by decide) ?_
  refine T_lshl dX3_right_2 ?_
  refine T_ldc2 dX3_right_3 kcl_X3_19 ?_
  refine T_land dX3_right_6 ?_
  refine T_ldc2 dX3_right_7 kcl_X3_21 ?_
  refine T_land dX3_right_10 ?_
  exact T_end (fun h => by cases h; exact V_lret dX3_right_11)
set_option maxHeartbeats 4000000 in
set_option maxRecDepth 100000 in
theorem mX3_left (G : Gw) (l : Launch) (x0 : Int64) (M : Mem) (a : Int64) (h : fX3_left x0 = some a) : CtP G l yX3_left cX3_left 2 (some .long) 0 0 [.long x0] M (some (.long a)) M := by
  refine CtP.ofV (by decide) (Nat.le_of_ble_eq_true rfl) ?_
  refine (?_ : T G l RX3 cX3_left 2 (some .long) (rmOf 0 0) 0 0 (FinM G (some (.long a)) M) (fun x => x = a) 0 [(0, .long x0)] [] M (fX3_left x0)) a h rfl
  clear h
  unfold fX3_left
  refine T_lload_n (q := 0) dX3_left_0 rfl rfl ?_
  refine T_ldc2 dX3_left_1 kcl_X3_21 ?_
  refine T_land dX3_left_4 ?_
  refine T_iconst (v := 1) dX3_left_5 (by decide) ?_
  refine T_lushr dX3_left_6 ?_
  exact T_end (fun h => by cases h; exact V_lret dX3_left_7)
set_option maxHeartbeats 4000000 in
set_option maxRecDepth 100000 in
theorem mX3_up (G : Gw) (l : Launch) (x0 : Int64) (M : Mem) (a : Int64) (h : fX3_up x0 = some a) : CtP G l yX3_up cX3_up 2 (some .long) 0 0 [.long x0] M (some (.long a)) M := by
  refine CtP.ofV (by decide) (Nat.le_of_ble_eq_true rfl) ?_
  refine (?_ : T G l RX3 cX3_up 2 (some .long) (rmOf 0 0) 0 0 (FinM G (some (.long a)) M) (fun x => x = a) 0 [(0, .long x0)] [] M (fX3_up x0)) a h rfl
  clear h
  unfold fX3_up
  refine T_lload_n (q := 0) dX3_up_0 rfl rfl ?_
  refine T_bipush (v := 6) dX3_up_1 (by decide) ?_
  refine T_lushr dX3_up_3 ?_
  exact T_end (fun h => by cases h; exact V_lret dX3_up_4)
set_option maxHeartbeats 4000000 in
set_option maxRecDepth 100000 in
theorem mX3_heapFrom (G : Gw) (l : Launch) (x0 : Int32) (x1 : Int64) (M : Mem) (a : Int64) (h : fX3_heapFrom x0 x1 = some a) : CtP G l yX3_heapFrom cX3_heapFrom 8 (some .long) 1 21 [.int x0, .long x1] M (some (.long a)) M := by
  refine CtP.ofV (by decide) (Nat.le_of_ble_eq_true rfl) ?_
  refine (?_ : T G l RX3 cX3_heapFrom 8 (some .long) (rmOf 1 21) 0 0 (FinM G (some (.long a)) M) (fun x => x = a) 0 [(0, .int x0), (1, .long x1)] [] M (fX3_heapFrom x0 x1)) a h rfl
  clear h
  unfold fX3_heapFrom
  refine T_lconst (v := 1) dX3_heapFrom_0 (by decide) ?_
  refine T_iload_n (q := 0) dX3_heapFrom_1 rfl rfl ?_
  refine T_lshl dX3_heapFrom_2 ?_
  refine T_lload_n (q := 1) dX3_heapFrom_3 rfl rfl ?_
  refine T_land dX3_heapFrom_4 ?_
  refine T_lstore_n_G (lv' := fun v1 => [(3, .long v1), (0, .int x0), (1, .long x1)]) dX3_heapFrom_5 rfl (by decide) (fun _ => rfl) (fun v1 => ?_)
  refine T_lconst (v := 0) dX3_heapFrom_6 (by decide) ?_
  refine T_lstore (lv' := [(5, .long (0 : Int64)), (3, .long v1), (0, .int x0), (1, .long x1)]) dX3_heapFrom_7 (by decide) rfl ?_
  refine T_iconst (v := 0) dX3_heapFrom_9 (by decide) ?_
  refine T_istore (lv' := [(7, .int (0 : Int32)), (5, .long (0 : Int64)), (3, .long v1), (0, .int x0), (1, .long x1)]) dX3_heapFrom_10 (by decide) rfl ?_
  refine T_bind (X := fun r11 => V G l RX3 cX3_heapFrom 8 (some .long) (rmOf 1 21) 0 0 (FinM G (some (.long a)) M) 59 [(7, .int r11.2.2), (5, .long r11.2.1), (3, .long r11.1), (0, .int x0), (1, .long x1)] [] M) (T_loop (fun s2 => [(7, .int s2.2.2), (5, .long s2.2.1), (3, .long s2.1), (0, .int x0), (1, .long x1)]) (fun s2 => M) (fun s2 => ?_) (v1, (0 : Int64), (0 : Int32))) (fun r11 => ?_)
  · unfold wX3_heapFrom_12
    refine T_iload (q := 0) dX3_heapFrom_12 rfl ?_
    refine T_bipush (v := 36) dX3_heapFrom_14 (by decide) ?_
    refine T_icmp_ge (tgt := 59) dX3_heapFrom_16 (by decide) (fun hc3 => ?_) (fun hc3 => ?_)
    · exact T_end (fun h => V_sub [0, 1, 2, 3, 4] rfl h)
    · refine T_lload_n (q := 2) dX3_heapFrom_19 rfl rfl ?_
      refine T_lload (q := 1) dX3_heapFrom_20 rfl ?_
      refine T_lcmp dX3_heapFrom_22 ?_
      refine T_if_eq (tgt := 59) dX3_heapFrom_23 (by decide) (fun hc4 => ?_) (fun hc4 => ?_)
      · exact T_end (fun h => V_sub [0, 1, 2, 3, 4] rfl h)
      · refine T_lload_n (q := 2) dX3_heapFrom_26 rfl rfl ?_
        refine T_lstore (lv' := [(5, .long s2.1), (7, .int s2.2.2), (3, .long s2.1), (0, .int x0), (1, .long x1)]) dX3_heapFrom_27 (by decide) rfl ?_
        refine T_lload_n (q := 2) dX3_heapFrom_29 rfl rfl ?_
        refine T_lload_n (q := 2) dX3_heapFrom_30 rfl rfl ?_
        refine T_callSl (As := [.long s2.1]) (st := [.long s2.1]) ms_X3_23 (by decide) dX3_heapFrom_31 (fun b hb => mX3_right G l s2.1 M b hb) rfl rfl (Nat.le_of_ble_eq_true rfl) (fun b5 => ?_)
        refine T_lload_n (q := 2) dX3_heapFrom_34 rfl rfl ?_
        refine T_callSl (As := [.long s2.1]) (st := [.long b5, .long s2.1]) ms_X3_49 (by decide) dX3_heapFrom_35 (fun b hb => mX3_left G l s2.1 M b hb) rfl rfl (Nat.le_of_ble_eq_true rfl) (fun b6 => ?_)
        refine T_lor dX3_heapFrom_38 ?_
        refine T_lload_n (q := 2) dX3_heapFrom_39 rfl rfl ?_
        refine T_callSl (As := [.long s2.1]) (st := [.long (b5 ||| b6), .long s2.1]) ms_X3_33 (by decide) dX3_heapFrom_40 (fun b hb => mX3_down G l s2.1 M b hb) rfl rfl (Nat.le_of_ble_eq_true rfl) (fun b7 => ?_)
        refine T_lor dX3_heapFrom_43 ?_
        refine T_lload_n (q := 2) dX3_heapFrom_44 rfl rfl ?_
        refine T_callSl (As := [.long s2.1]) (st := [.long ((b5 ||| b6) ||| b7), .long s2.1]) ms_X3_52 (by decide) dX3_heapFrom_45 (fun b hb => mX3_up G l s2.1 M b hb) rfl rfl (Nat.le_of_ble_eq_true rfl) (fun b8 => ?_)
        refine T_lor dX3_heapFrom_48 ?_
        refine T_lload_n (q := 4) dX3_heapFrom_49 rfl rfl ?_
        refine T_land dX3_heapFrom_50 ?_
        refine T_lor dX3_heapFrom_51 ?_
        refine T_lstore_n_G (lv' := fun v9 => [(3, .long v9), (5, .long s2.1), (7, .int s2.2.2), (0, .int x0), (1, .long x1)]) dX3_heapFrom_52 rfl (by decide) (fun _ => rfl) (fun v9 => ?_)
        refine T_iinc_G (q := 2) (y := s2.2.2 + 1) (lv' := fun v10 => [(7, .int v10), (3, .long v9), (5, .long s2.1), (0, .int x0), (1, .long x1)]) dX3_heapFrom_53 rfl rfl (by decide) (fun _ => rfl) (fun v10 => ?_)
        refine T_goto (tgt := 12) dX3_heapFrom_56 (by decide) ?_
        exact T_end (fun h => V_sub [0, 2, 1, 3, 4] rfl h)
  · change T G l RX3 cX3_heapFrom 8 (some .long) (rmOf 1 21) 0 0 (FinM G (some (.long a)) M) _ 59 [(7, .int r11.2.2), (5, .long r11.2.1), (3, .long r11.1), (0, .int x0), (1, .long x1)] [] M _
    refine T_lload_n (q := 2) dX3_heapFrom_59 rfl rfl ?_
    exact T_end (fun h => by cases h; exact V_lret dX3_heapFrom_60)
set_option maxHeartbeats 4000000 in
set_option maxRecDepth 100000 in
theorem mX3_isCell (G : Gw) (l : Launch) (x0 : Int32) (M : Mem) (a : Int32) (h : fX3_isCell x0 = some a) : CtP G l yX3_isCell cX3_isCell 1 (some .boolean) 0 0 [.int x0] M (some (.int a)) M := by
  refine CtP.ofV (by decide) (Nat.le_of_ble_eq_true rfl) ?_
  refine (?_ : T G l RX3 cX3_isCell 1 (some .boolean) (rmOf 0 0) 0 0 (FinM G (some (.int a)) M) (fun x => x = a) 0 [(0, .int x0)] [] M (fX3_isCell x0)) a h rfl
  clear h
  unfold fX3_isCell
  refine T_iload_n (q := 0) dX3_isCell_0 rfl rfl ?_
  refine T_if_lt (tgt := 14) dX3_isCell_1 (by decide) (fun hc1 => ?_) (fun hc1 => ?_)
  · refine T_iconst (v := 0) dX3_isCell_14 (by decide) ?_
    exact T_end (fun h => by cases h; exact V_zret (by decide) dX3_isCell_15)
  · refine T_iload_n (q := 0) dX3_isCell_4 rfl rfl ?_
    refine T_bipush (v := 36) dX3_isCell_5 (by decide) ?_
    refine T_icmp_ge (tgt := 14) dX3_isCell_7 (by decide) (fun hc2 => ?_) (fun hc2 => ?_)
    · refine T_iconst (v := 0) dX3_isCell_14 (by decide) ?_
      exact T_end (fun h => by cases h; exact V_zret (by decide) dX3_isCell_15)
    · refine T_iconst (v := 1) dX3_isCell_10 (by decide) ?_
      refine T_goto (tgt := 15) dX3_isCell_11 (by decide) ?_
      exact T_end (fun h => by cases h; exact V_zret (by decide) dX3_isCell_15)
set_option maxHeartbeats 4000000 in
set_option maxRecDepth 100000 in
theorem mX3_isSet (G : Gw) (l : Launch) (x0 : Int64) (M : Mem) (a : Int32) (h : fX3_isSet x0 = some a) : CtP G l yX3_isSet cX3_isSet 2 (some .boolean) 0 0 [.long x0] M (some (.int a)) M := by
  refine CtP.ofV (by decide) (Nat.le_of_ble_eq_true rfl) ?_
  refine (?_ : T G l RX3 cX3_isSet 2 (some .boolean) (rmOf 0 0) 0 0 (FinM G (some (.int a)) M) (fun x => x = a) 0 [(0, .long x0)] [] M (fX3_isSet x0)) a h rfl
  clear h
  unfold fX3_isSet
  refine T_lload_n (q := 0) dX3_isSet_0 rfl rfl ?_
  refine T_ldc2 dX3_isSet_1 kcl_X3_11 ?_
  refine T_land dX3_isSet_4 ?_
  refine T_lconst (v := 0) dX3_isSet_5 (by decide) ?_
  refine T_lcmp dX3_isSet_6 ?_
  refine T_if_ne (tgt := 14) dX3_isSet_7 (by decide) (fun hc1 => ?_) (fun hc1 => ?_)
  · refine T_iconst (v := 1) dX3_isSet_10 (by decide) ?_
    refine T_goto (tgt := 15) dX3_isSet_11 (by decide) ?_
    exact T_end (fun h => by cases h; exact V_zret (by decide) dX3_isSet_15)
  · refine T_iconst (v := 0) dX3_isSet_14 (by decide) ?_
    exact T_end (fun h => by cases h; exact V_zret (by decide) dX3_isSet_15)
set_option maxHeartbeats 4000000 in
set_option maxRecDepth 100000 in
theorem mX3_pairsWithin (G : Gw) (l : Launch) (x0 : Int64) (M : Mem) (a : Int32) (h : fX3_pairsWithin x0 = some a) : CtP G l yX3_pairsWithin cX3_pairsWithin 2 (some .int) 1 21 [.long x0] M (some (.int a)) M := by
  refine CtP.ofV (by decide) (Nat.le_of_ble_eq_true rfl) ?_
  refine (?_ : T G l RX3 cX3_pairsWithin 2 (some .int) (rmOf 1 21) 0 0 (FinM G (some (.int a)) M) (fun x => x = a) 0 [(0, .long x0)] [] M (fX3_pairsWithin x0)) a h rfl
  clear h
  unfold fX3_pairsWithin
  refine T_lload_n (q := 0) dX3_pairsWithin_0 rfl rfl ?_
  refine T_lload_n (q := 0) dX3_pairsWithin_1 rfl rfl ?_
  refine T_callSl (As := [.long x0]) (st := [.long x0]) ms_X3_23 (by decide) dX3_pairsWithin_2 (fun b hb => mX3_right G l x0 M b hb) rfl rfl (Nat.le_of_ble_eq_true rfl) (fun b1 => ?_)
  refine T_land dX3_pairsWithin_5 ?_
  refine T_callSi (As := [.long (x0 &&& b1)]) (st := []) ms_X3_27 (by decide) dX3_pairsWithin_6 (fun b hb => mJ13_bitCount_95d88 G l (x0 &&& b1) M b hb) rfl rfl (Nat.le_of_ble_eq_true rfl) (fun b2 => ?_)
  refine T_lload_n (q := 0) dX3_pairsWithin_9 rfl rfl ?_
  refine T_lload_n (q := 0) dX3_pairsWithin_10 rfl rfl ?_
  refine T_callSl (As := [.long x0]) (st := [.long x0, .int b2]) ms_X3_33 (by decide) dX3_pairsWithin_11 (fun b hb => mX3_down G l x0 M b hb) rfl rfl (Nat.le_of_ble_eq_true rfl) (fun b3 => ?_)
  refine T_land dX3_pairsWithin_14 ?_
  refine T_callSi (As := [.long (x0 &&& b3)]) (st := [.int b2]) ms_X3_27 (by decide) dX3_pairsWithin_15 (fun b hb => mJ13_bitCount_95d88 G l (x0 &&& b3) M b hb) rfl rfl (Nat.le_of_ble_eq_true rfl) (fun b4 => ?_)
  refine T_iadd dX3_pairsWithin_18 ?_
  exact T_end (fun h => by cases h; exact V_iret dX3_pairsWithin_19)
set_option maxHeartbeats 4000000 in
set_option maxRecDepth 100000 in
theorem mX3_pieces (G : Gw) (l : Launch) (x0 : Int64) (M : Mem) (a : Int32) (h : fX3_pieces x0 = some a) : CtP G l yX3_pieces cX3_pieces 6 (some .int) 2 48 [.long x0] M (some (.int a)) M := by
  refine CtP.ofV (by decide) (Nat.le_of_ble_eq_true rfl) ?_
  refine (?_ : T G l RX3 cX3_pieces 6 (some .int) (rmOf 2 48) 0 0 (FinM G (some (.int a)) M) (fun x => x = a) 0 [(0, .long x0)] [] M (fX3_pieces x0)) a h rfl
  clear h
  unfold fX3_pieces
  refine T_iconst (v := 0) dX3_pieces_0 (by decide) ?_
  refine T_istore_n (lv' := [(2, .int (0 : Int32)), (0, .long x0)]) dX3_pieces_1 rfl (by decide) rfl ?_
  refine T_lload_n (q := 1) dX3_pieces_2 rfl rfl ?_
  refine T_lstore_n (lv' := [(3, .long x0), (2, .int (0 : Int32)), (0, .long x0)]) dX3_pieces_3 rfl (by decide) rfl ?_
  refine T_iconst (v := 0) dX3_pieces_4 (by decide) ?_
  refine T_istore (lv' := [(5, .int (0 : Int32)), (3, .long x0), (2, .int (0 : Int32)), (0, .long x0)]) dX3_pieces_5 (by decide) rfl ?_
  refine T_bind (X := fun r10 => V G l RX3 cX3_pieces 6 (some .int) (rmOf 2 48) 0 0 (FinM G (some (.int a)) M) 45 [(5, .int r10.2.2), (3, .long r10.2.1), (2, .int r10.1), (0, .long x0)] [] M) (T_loop (fun s1 => [(5, .int s1.2.2), (3, .long s1.2.1), (2, .int s1.1), (0, .long x0)]) (fun s1 => M) (fun s1 => ?_) ((0 : Int32), x0, (0 : Int32))) (fun r10 => ?_)
  · unfold wX3_pieces_7
    refine T_iload (q := 0) dX3_pieces_7 rfl ?_
    refine T_bipush (v := 36) dX3_pieces_9 (by decide) ?_
    refine T_icmp_ge (tgt := 45) dX3_pieces_11 (by decide) (fun hc2 => ?_) (fun hc2 => ?_)
    · exact T_end (fun h => V_sub [0, 1, 2, 3] rfl h)
    · refine T_lload_n (q := 1) dX3_pieces_14 rfl rfl ?_
      refine T_iload (q := 0) dX3_pieces_15 rfl ?_
      refine T_callSi (As := [.long s1.2.1, .int s1.2.2]) (st := []) ms_X3_39 (by decide) dX3_pieces_17 (fun b hb => mX3_has G l s1.2.1 s1.2.2 M b hb) rfl rfl (Nat.le_of_ble_eq_true rfl) (fun b3 => ?_)
      refine T_if_eq (tgt := 39) dX3_pieces_20 (by decide) (fun hc4 => ?_) (fun hc4 => ?_)
      · refine T_iinc_G (q := 0) (y := s1.2.2 + 1) (lv' := fun v5 => [(5, .int v5), (3, .long s1.2.1), (2, .int s1.1), (0, .long x0)]) dX3_pieces_39 rfl rfl (by decide) (fun _ => rfl) (fun v5 => ?_)
        refine T_goto (tgt := 7) dX3_pieces_42 (by decide) ?_
        exact T_end (fun h => V_sub [0, 1, 2, 3] rfl h)
      · refine T_iinc_G (q := 2) (y := s1.1 + 1) (lv' := fun v6 => [(2, .int v6), (5, .int s1.2.2), (3, .long s1.2.1), (0, .long x0)]) dX3_pieces_23 rfl rfl (by decide) (fun _ => rfl) (fun v6 => ?_)
        refine T_lload_n (q := 2) dX3_pieces_26 rfl rfl ?_
        refine T_iload (q := 1) dX3_pieces_27 rfl ?_
        refine T_lload_n (q := 2) dX3_pieces_29 rfl rfl ?_
        refine T_callSl (As := [.int s1.2.2, .long s1.2.1]) (st := [.long s1.2.1]) ms_X3_43 (by decide) dX3_pieces_30 (fun b hb => mX3_heapFrom G l s1.2.2 s1.2.1 M b hb) rfl rfl (Nat.le_of_ble_eq_true rfl) (fun b7 => ?_)
        refine T_ldc2 dX3_pieces_33 kcl_X3_47 ?_
        refine T_lxor dX3_pieces_36 ?_
        refine T_land dX3_pieces_37 ?_
        refine T_lstore_n_G (lv' := fun v8 => [(3, .long v8), (2, .int v6), (5, .int s1.2.2), (0, .long x0)]) dX3_pieces_38 rfl (by decide) (fun _ => rfl) (fun v8 => ?_)
        refine T_iinc_G (q := 2) (y := s1.2.2 + 1) (lv' := fun v9 => [(5, .int v9), (3, .long v8), (2, .int v6), (0, .long x0)]) dX3_pieces_39 rfl rfl (by decide) (fun _ => rfl) (fun v9 => ?_)
        refine T_goto (tgt := 7) dX3_pieces_42 (by decide) ?_
        exact T_end (fun h => V_sub [0, 1, 2, 3] rfl h)
  · change T G l RX3 cX3_pieces 6 (some .int) (rmOf 2 48) 0 0 (FinM G (some (.int a)) M) _ 45 [(5, .int r10.2.2), (3, .long r10.2.1), (2, .int r10.1), (0, .long x0)] [] M _
    refine T_iload_n (q := 2) dX3_pieces_45 rfl rfl ?_
    exact T_end (fun h => by cases h; exact V_iret dX3_pieces_46)
set_option maxHeartbeats 4000000 in
set_option maxRecDepth 100000 in
theorem mX3_sides (G : Gw) (l : Launch) (x0 : Int64) (M : Mem) (a : Int32) (h : fX3_sides x0 = some a) : CtP G l yX3_sides cX3_sides 2 (some .int) 2 42 [.long x0] M (some (.int a)) M := by
  refine CtP.ofV (by decide) (Nat.le_of_ble_eq_true rfl) ?_
  refine (?_ : T G l RX3 cX3_sides 2 (some .int) (rmOf 2 42) 0 0 (FinM G (some (.int a)) M) (fun x => x = a) 0 [(0, .long x0)] [] M (fX3_sides x0)) a h rfl
  clear h
  unfold fX3_sides
  refine T_iconst (v := 4) dX3_sides_0 (by decide) ?_
  refine T_lload_n (q := 0) dX3_sides_1 rfl rfl ?_
  refine T_callSi (As := [.long x0]) (st := [.int (4 : Int32)]) ms_X3_27 (by decide) dX3_sides_2 (fun b hb => mJ13_bitCount_95d88 G l x0 M b hb) rfl rfl (Nat.le_of_ble_eq_true rfl) (fun b1 => ?_)
  refine T_imul dX3_sides_5 ?_
  refine T_iconst (v := 2) dX3_sides_6 (by decide) ?_
  refine T_lload_n (q := 0) dX3_sides_7 rfl rfl ?_
  refine T_callSi (As := [.long x0]) (st := [.int (2 : Int32), .int ((4 : Int32) * b1)]) ms_X3_36 (by decide) dX3_sides_8 (fun b hb => mX3_pairsWithin G l x0 M b hb) rfl rfl (Nat.le_of_ble_eq_true rfl) (fun b2 => ?_)
  refine T_imul dX3_sides_11 ?_
  refine T_isub dX3_sides_12 ?_
  exact T_end (fun h => by cases h; exact V_iret dX3_sides_13)
set_option maxHeartbeats 4000000 in
set_option maxRecDepth 100000 in
theorem mX4_borderPairs (G : Gw) (l : Launch) (o0 : Nat) (ho0 : shp o0 = 3) (M : Mem) (a : Int32) (h : fX4_borderPairs o0 M = some a) : CtP G l yX4_borderPairs cX4_borderPairs 3 (some .int) 2 44 [.ref (adr G o0)] M (some (.int a)) M := by
  refine CtP.ofV (by decide) (Nat.le_of_ble_eq_true rfl) ?_
  refine (?_ : T G l RX4 cX4_borderPairs 3 (some .int) (rmOf 2 44) 0 0 (FinM G (some (.int a)) M) (fun x => x = a) 0 [(0, .ref (adr G o0))] [] M (fX4_borderPairs o0 M)) a h rfl
  clear h
  unfold fX4_borderPairs
  refine T_iconst (v := 0) dX4_borderPairs_0 (by decide) ?_
  refine T_istore_n (lv' := [(1, .int (0 : Int32)), (0, .ref (adr G o0))]) dX4_borderPairs_1 rfl (by decide) rfl ?_
  refine T_iconst (v := 0) dX4_borderPairs_2 (by decide) ?_
  refine T_istore_n (lv' := [(2, .int (0 : Int32)), (1, .int (0 : Int32)), (0, .ref (adr G o0))]) dX4_borderPairs_3 rfl (by decide) rfl ?_
  refine T_bind (X := fun r7 => V G l RX4 cX4_borderPairs 3 (some .int) (rmOf 2 44) 0 0 (FinM G (some (.int a)) M) 27 [(2, .int r7.2), (1, .int r7.1), (0, .ref (adr G o0))] [] M) (T_loop (fun s1 => [(2, .int s1.2), (1, .int s1.1), (0, .ref (adr G o0))]) (fun s1 => M) (fun s1 => ?_) ((0 : Int32), (0 : Int32))) (fun r7 => ?_)
  · unfold wX4_borderPairs_4
    refine T_iload_n (q := 0) dX4_borderPairs_4 rfl rfl ?_
    refine T_bipush (v := 11) dX4_borderPairs_5 (by decide) ?_
    refine T_icmp_ge (tgt := 27) dX4_borderPairs_7 (by decide) (fun hc2 => ?_) (fun hc2 => ?_)
    · exact T_end (fun h => V_sub [0, 1, 2] rfl h)
    · refine T_iload_n (q := 1) dX4_borderPairs_10 rfl rfl ?_
      refine T_aload_n (q := 2) dX4_borderPairs_11 rfl rfl ?_
      refine T_iload_n (q := 0) dX4_borderPairs_12 rfl rfl ?_
      refine T_callVl (As := [.int s1.2]) (st := [.int s1.1]) mv_X4_53 (by decide) dX4_borderPairs_13 ho0 (fun b hb => mX4_heldBy G l o0 ho0 s1.2 M b hb) rfl rfl (Nat.le_of_ble_eq_true rfl) (fun b3 => ?_)
      refine T_callSi (As := [.long b3]) (st := [.int s1.1]) ms_X4_57 (by decide) dX4_borderPairs_16 (fun b hb => mX3_pairsWithin G l b3 M b hb) rfl rfl (Nat.le_of_ble_eq_true rfl) (fun b4 => ?_)
      refine T_iadd dX4_borderPairs_19 ?_
      refine T_istore_n_G (lv' := fun v5 => [(1, .int v5), (2, .int s1.2), (0, .ref (adr G o0))]) dX4_borderPairs_20 rfl (by decide) (fun _ => rfl) (fun v5 => ?_)
      refine T_iinc_G (q := 1) (y := s1.2 + 1) (lv' := fun v6 => [(2, .int v6), (1, .int v5), (0, .ref (adr G o0))]) dX4_borderPairs_21 rfl rfl (by decide) (fun _ => rfl) (fun v6 => ?_)
      refine T_goto (tgt := 4) dX4_borderPairs_24 (by decide) ?_
      exact T_end (fun h => V_sub [0, 1, 2] rfl h)
  · change T G l RX4 cX4_borderPairs 3 (some .int) (rmOf 2 44) 0 0 (FinM G (some (.int a)) M) _ 27 [(2, .int r7.2), (1, .int r7.1), (0, .ref (adr G o0))] [] M _
    refine T_bipush (v := 60) dX4_borderPairs_27 (by decide) ?_
    refine T_iload_n (q := 1) dX4_borderPairs_29 rfl rfl ?_
    refine T_isub dX4_borderPairs_30 ?_
    exact T_end (fun h => by cases h; exact V_iret dX4_borderPairs_31)
set_option maxHeartbeats 4000000 in
set_option maxRecDepth 100000 in
theorem mX4_hundredOver (G : Gw) (l : Launch) (o0 : Nat) (ho0 : shp o0 = 3) (x1 : Int32) (M : Mem) (a : Int32) (h : fX4_hundredOver o0 x1 M = some a) : CtP G l yX4_hundredOver cX4_hundredOver 2 (some .int) 1 20 [.ref (adr G o0), .int x1] M (some (.int a)) M := by
  refine CtP.ofV (by decide) (Nat.le_of_ble_eq_true rfl) ?_
  refine (?_ : T G l RX4 cX4_hundredOver 2 (some .int) (rmOf 1 20) 0 0 (FinM G (some (.int a)) M) (fun x => x = a) 0 [(0, .ref (adr G o0)), (1, .int x1)] [] M (fX4_hundredOver o0 x1 M)) a h rfl
  clear h
  unfold fX4_hundredOver
  refine T_iload_n (q := 1) dX4_hundredOver_0 rfl rfl ?_
  refine T_callSi (As := [.int x1]) (st := []) ms_X4_35 (by decide) dX4_hundredOver_1 (fun b hb => mX4_isSlot G l x1 M b hb) rfl rfl (Nat.le_of_ble_eq_true rfl) (fun b1 => ?_)
  refine T_if_eq (tgt := 16) dX4_hundredOver_4 (by decide) (fun hc2 => ?_) (fun hc2 => ?_)
  · refine T_bipush (v := 10) dX4_hundredOver_16 (by decide) ?_
    exact T_end (fun h => by cases h; exact V_iret dX4_hundredOver_18)
  · refine T_aload_n (q := 0) dX4_hundredOver_7 rfl rfl ?_
    refine T_getR cf3 fr_X4_15 dX4_hundredOver_8 ho0 rfl ?_
    refine T_iload_n (q := 1) dX4_hundredOver_11 rfl rfl ?_
    refine T_iald dX4_hundredOver_12 (sf_3_1 ho0) ?_
    refine T_goto (tgt := 18) dX4_hundredOver_13 (by decide) ?_
    exact T_end (fun h => by cases h; exact V_iret dX4_hundredOver_18)
set_option maxHeartbeats 4000000 in
set_option maxRecDepth 100000 in
theorem mX5_hasRun (G : Gw) (l : Launch) (o0 : Nat) (ho0 : shp o0 = 4) (x1 : Int32) (x2 : Int32) (M : Mem) (a : Int32) (h : fX5_hasRun o0 x1 x2 M = some a) : CtP G l yX5_hasRun cX5_hasRun 3 (some .boolean) 0 0 [.ref (adr G o0), .int x1, .int x2] M (some (.int a)) M := by
  refine CtP.ofV (by decide) (Nat.le_of_ble_eq_true rfl) ?_
  refine (?_ : T G l RX5 cX5_hasRun 3 (some .boolean) (rmOf 0 0) 0 0 (FinM G (some (.int a)) M) (fun x => x = a) 0 [(0, .ref (adr G o0)), (1, .int x1), (2, .int x2)] [] M (fX5_hasRun o0 x1 x2 M)) a h rfl
  clear h
  unfold fX5_hasRun
  refine T_iload_n (q := 1) dX5_hasRun_0 rfl rfl ?_
  refine T_if_lt (tgt := 30) dX5_hasRun_1 (by decide) (fun hc1 => ?_) (fun hc1 => ?_)
  · refine T_iconst (v := 0) dX5_hasRun_30 (by decide) ?_
    exact T_end (fun h => by cases h; exact V_zret (by decide) dX5_hasRun_31)
  · refine T_iload_n (q := 2) dX5_hasRun_4 rfl rfl ?_
    refine T_if_lt (tgt := 30) dX5_hasRun_5 (by decide) (fun hc2 => ?_) (fun hc2 => ?_)
    · refine T_iconst (v := 0) dX5_hasRun_30 (by decide) ?_
      exact T_end (fun h => by cases h; exact V_zret (by decide) dX5_hasRun_31)
    · refine T_iload_n (q := 2) dX5_hasRun_8 rfl rfl ?_
      refine T_aload_n (q := 0) dX5_hasRun_9 rfl rfl ?_
      refine T_getI cf4 fr_X5_19 dX5_hasRun_10 ho0 rfl ?_
      refine T_icmp_gt (tgt := 30) dX5_hasRun_13 (by decide) (fun hc3 => ?_) (fun hc3 => ?_)
      · refine T_iconst (v := 0) dX5_hasRun_30 (by decide) ?_
        exact T_end (fun h => by cases h; exact V_zret (by decide) dX5_hasRun_31)
      · refine T_iload_n (q := 1) dX5_hasRun_16 rfl rfl ?_
        refine T_aload_n (q := 0) dX5_hasRun_17 rfl rfl ?_
        refine T_getI cf4 fr_X5_19 dX5_hasRun_18 ho0 rfl ?_
        refine T_iload_n (q := 2) dX5_hasRun_21 rfl rfl ?_
        refine T_isub dX5_hasRun_22 ?_
        refine T_icmp_gt (tgt := 30) dX5_hasRun_23 (by decide) (fun hc4 => ?_) (fun hc4 => ?_)
        · refine T_iconst (v := 0) dX5_hasRun_30 (by decide) ?_
          exact T_end (fun h => by cases h; exact V_zret (by decide) dX5_hasRun_31)
        · refine T_iconst (v := 1) dX5_hasRun_26 (by decide) ?_
          refine T_goto (tgt := 31) dX5_hasRun_27 (by decide) ?_
          exact T_end (fun h => by cases h; exact V_zret (by decide) dX5_hasRun_31)
set_option maxHeartbeats 4000000 in
set_option maxRecDepth 100000 in
theorem mX5_isMissing (G : Gw) (l : Launch) (o0 : Nat) (ho0 : shp o0 = 4) (M : Mem) (a : Int32) (h : fX5_isMissing o0 M = some a) : CtP G l yX5_isMissing cX5_isMissing 1 (some .boolean) 0 0 [.ref (adr G o0)] M (some (.int a)) M := by
  refine CtP.ofV (by decide) (Nat.le_of_ble_eq_true rfl) ?_
  refine (?_ : T G l RX5 cX5_isMissing 1 (some .boolean) (rmOf 0 0) 0 0 (FinM G (some (.int a)) M) (fun x => x = a) 0 [(0, .ref (adr G o0))] [] M (fX5_isMissing o0 M)) a h rfl
  clear h
  unfold fX5_isMissing
  refine T_aload_n (q := 0) dX5_isMissing_0 rfl rfl ?_
  refine T_getI cf4 fr_X5_15 dX5_isMissing_1 ho0 rfl ?_
  refine T_if_ne (tgt := 11) dX5_isMissing_4 (by decide) (fun hc1 => ?_) (fun hc1 => ?_)
  · refine T_iconst (v := 1) dX5_isMissing_7 (by decide) ?_
    refine T_goto (tgt := 12) dX5_isMissing_8 (by decide) ?_
    exact T_end (fun h => by cases h; exact V_zret (by decide) dX5_isMissing_12)
  · refine T_iconst (v := 0) dX5_isMissing_11 (by decide) ?_
    exact T_end (fun h => by cases h; exact V_zret (by decide) dX5_isMissing_12)
set_option maxHeartbeats 4000000 in
set_option maxRecDepth 100000 in
theorem mX5_lowestBits (G : Gw) (l : Launch) (o0 : Nat) (ho0 : shp o0 = 4) (x1 : Int32) (M : Mem) (a : Int32) (h : fX5_lowestBits o0 x1 M = some a) : CtP G l yX5_lowestBits cX5_lowestBits 2 (some .int) 0 0 [.ref (adr G o0), .int x1] M (some (.int a)) M := by
  refine CtP.ofV (by decide) (Nat.le_of_ble_eq_true rfl) ?_
  refine (?_ : T G l RX5 cX5_lowestBits 2 (some .int) (rmOf 0 0) 0 0 (FinM G (some (.int a)) M) (fun x => x = a) 0 [(0, .ref (adr G o0)), (1, .int x1)] [] M (fX5_lowestBits o0 x1 M)) a h rfl
  clear h
  unfold fX5_lowestBits
  refine T_aload_n (q := 0) dX5_lowestBits_0 rfl rfl ?_
  refine T_getI cf4 fr_X5_15 dX5_lowestBits_1 ho0 rfl ?_
  refine T_bipush (v := 32) dX5_lowestBits_4 (by decide) ?_
  refine T_icmp_ne (tgt := 13) dX5_lowestBits_6 (by decide) (fun hc1 => ?_) (fun hc1 => ?_)
  · refine T_iload_n (q := 1) dX5_lowestBits_9 rfl rfl ?_
    refine T_goto (tgt := 23) dX5_lowestBits_10 (by decide) ?_
    exact T_end (fun h => by cases h; exact V_iret dX5_lowestBits_23)
  · refine T_iload_n (q := 1) dX5_lowestBits_13 rfl rfl ?_
    refine T_iconst (v := 1) dX5_lowestBits_14 (by decide) ?_
    refine T_aload_n (q := 0) dX5_lowestBits_15 rfl rfl ?_
    refine T_getI cf4 fr_X5_15 dX5_lowestBits_16 ho0 rfl ?_
    refine T_ishl dX5_lowestBits_19 ?_
    refine T_iconst (v := 1) dX5_lowestBits_20 (by decide) ?_
    refine T_isub dX5_lowestBits_21 ?_
    refine T_iand dX5_lowestBits_22 ?_
    exact T_end (fun h => by cases h; exact V_iret dX5_lowestBits_23)
set_option maxHeartbeats 4000000 in
set_option maxRecDepth 100000 in
theorem mX5_renew (G : Gw) (l : Launch) (o0 : Nat) (ho0 : shp o0 = 4) (x1 : Int32) (x2 : Int32) (M : Mem) (a : Int32 × Mem) (h : fX5_renew o0 x1 x2 M = some a) : CtP G l yX5_renew cX5_renew 3 (some .int) 1 23 [.ref (adr G o0), .int x1, .int x2] M (some (.int a.1)) a.2 := by
  refine CtP.ofV (by decide) (Nat.le_of_ble_eq_true rfl) ?_
  refine (?_ : T G l RX5 cX5_renew 3 (some .int) (rmOf 1 23) 0 0 (FinM G (some (.int a.1)) a.2) (fun x => x = a) 0 [(0, .ref (adr G o0)), (1, .int x1), (2, .int x2)] [] M (fX5_renew o0 x1 x2 M)) a h rfl
  clear h
  unfold fX5_renew
  refine T_aload_n (q := 0) dX5_renew_0 rfl rfl ?_
  refine T_iload_n (q := 1) dX5_renew_1 rfl rfl ?_
  refine T_putI cf4 fr_X5_15 pt_4_1 dX5_renew_2 ho0 rfl (fun M1 => ?_)
  refine T_aload_n (q := 0) dX5_renew_5 rfl rfl ?_
  refine T_iload_n (q := 1) dX5_renew_6 rfl rfl ?_
  refine T_if_ne (tgt := 14) dX5_renew_7 (by decide) (fun hc2 => ?_) (fun hc2 => ?_)
  · refine T_iconst (v := 0) dX5_renew_10 (by decide) ?_
    refine T_goto (tgt := 15) dX5_renew_11 (by decide) ?_
    refine T_putI cf4 fr_X5_19 pt_4_2 dX5_renew_15 ho0 rfl (fun M3 => ?_)
    refine T_aload_n (q := 0) dX5_renew_18 rfl rfl ?_
    refine T_getR cf4 fr_X5_9 dX5_renew_19 ho0 rfl ?_
    refine T_iconst (v := 0) dX5_renew_22 (by decide) ?_
    refine T_callSvw (As := [.ref (adr G (rf o0 0)), .int (0 : Int32)]) (st := []) ms_X5_22 (by decide) dX5_renew_23 (fun b hb => mJ7_fill_53178 G l (rf o0 0) (sf_4_0 ho0) (0 : Int32) M3 b hb) rfl rfl (Nat.le_of_ble_eq_true rfl) (fun b4 => ?_)
    refine T_aload_n (q := 0) dX5_renew_26 rfl rfl ?_
    refine T_getI cf4 fr_X5_19 dX5_renew_27 ho0 rfl ?_
    exact T_end (fun h => by cases h; exact V_iret dX5_renew_30)
  · refine T_iload_n (q := 2) dX5_renew_14 rfl rfl ?_
    refine T_putI cf4 fr_X5_19 pt_4_2 dX5_renew_15 ho0 rfl (fun M5 => ?_)
    refine T_aload_n (q := 0) dX5_renew_18 rfl rfl ?_
    refine T_getR cf4 fr_X5_9 dX5_renew_19 ho0 rfl ?_
    refine T_iconst (v := 0) dX5_renew_22 (by decide) ?_
    refine T_callSvw (As := [.ref (adr G (rf o0 0)), .int (0 : Int32)]) (st := []) ms_X5_22 (by decide) dX5_renew_23 (fun b hb => mJ7_fill_53178 G l (rf o0 0) (sf_4_0 ho0) (0 : Int32) M5 b hb) rfl rfl (Nat.le_of_ble_eq_true rfl) (fun b6 => ?_)
    refine T_aload_n (q := 0) dX5_renew_26 rfl rfl ?_
    refine T_getI cf4 fr_X5_19 dX5_renew_27 ho0 rfl ?_
    exact T_end (fun h => by cases h; exact V_iret dX5_renew_30)
end
