abbrev Ky (κ : Nat → ClassId) : List (ClassId × FieldType) := [(κ 0, .int), (κ 1, .boolean), (κ 2, .char), (κ 3, .long), (κ 4, .object "TestHall$Learner"), (κ 5, .array .int)]
def mfl (η : Nat → Nat) (M : Sg) : List Value := [.int (gI M 0), .ref (η 1), .int (gI M 2), .int (gI M 3), .ref (η 2), .ref (η 3), .ref (η 4), .int (gI M 7), .int (gI M 8), .ref (η 5), .ref (η 6), .ref (η 7), .ref (η 8), .ref (η 9), .ref (η 10), .int (gI M 15), .int (gI M 16), .int (gI M 17), .int (gI M 18), .ref (η 11), .ref (η 12), .ref (η 13), .ref (η 14), .ref (η 15), .int (gI M 24), .int (gI M 25), .ref (η 16), .ref (η 17), .ref (η 18), .ref (η 19), .int (gI M 30), .ref (η 20), .ref (η 21), .ref (η 22), .ref (η 23), .ref (η 24), .ref (η 25), .ref (η 26), .ref (η 27), .ref (η 28), .ref (η 29), .ref (η 30), .int (gI M 42), .ref (η 31), .ref (η 32), .int (gI M 45), .ref (η 33), .ref (η 34), .ref (η 35), .ref (η 36), .ref (η 37), .ref (η 38), .ref (η 39), .int (gI M 53), .ref (η 40), .int (gI M 55), .int (gI M 56), .int (gI M 57), .int (gI M 58), .int (gI M 59), .int (gI M 60), .int (gI M 61)]
def mw (κ : Nat → ClassId) (η : Nat → Nat) (M : Sg) : va_W := [(η 0, .inr (8, mfl η M)), (η 1, .inl (κ 0, 600, .inl (gA M 1))), (η 2, .inl (κ 0, 602, .inl (gA M 4))), (η 3, .inl (κ 0, 602, .inl (gA M 5))), (η 4, .inl (κ 3, 602, .inr (.inl (gJ M 6)))), (η 5, .inl (κ 3, 9, .inr (.inl (gJ M 9)))), (η 6, .inl (κ 0, 2, .inl (gA M 10))), (η 7, .inl (κ 0, 32, .inl (gA M 11))), (η 8, .inl (κ 0, 32, .inl (gA M 12))), (η 9, .inl (κ 0, 1320, .inl (gA M 13))), (η 10, .inl (κ 0, 1320, .inl (gA M 14))), (η 11, .inl (κ 0, 7, .inl (gA M 19))), (η 12, .inl (κ 0, 7, .inl (gA M 20))), (η 13, .inl (κ 0, 7, .inl (gA M 21))), (η 14, .inl (κ 0, 6, .inl (gA M 22))), (η 15, .inl (κ 0, 660, .inl (gA M 23))), (η 16, .inl (κ 0, 480, .inl (gA M 26))), (η 17, .inl (κ 1, 60, .inl (gA M 27))), (η 18, .inl (κ 0, 8, .inl (gA M 28))), (η 19, .inl (κ 0, 8, .inl (gA M 29))), (η 20, .inl (κ 0, 60, .inl (gA M 31))), (η 21, .inl (κ 0, 60, .inl (gA M 32))), (η 22, .inl (κ 0, 60, .inl (gA M 33))), (η 23, .inl (κ 0, 60, .inl (gA M 34))), (η 24, .inl (κ 0, 60, .inl (gA M 35))), (η 25, .inl (κ 1, 60, .inl (gA M 36))), (η 26, .inl (κ 0, 60, .inl (gA M 37))), (η 27, .inl (κ 0, 60, .inl (gA M 38))), (η 28, .inl (κ 0, 60, .inl (gA M 39))), (η 29, .inl (κ 0, 60, .inl (gA M 40))), (η 30, .inl (κ 0, 60, .inl (gA M 41))), (η 31, .inl (κ 0, 60, .inl (gA M 43))), (η 32, .inl (κ 1, 60, .inl (gA M 44))), (η 33, .inl (κ 0, 24, .inl (gA M 46))), (η 34, .inl (κ 0, 24, .inl (gA M 47))), (η 35, .inl (κ 0, 24, .inl (gA M 48))), (η 36, .inl (κ 0, 24, .inl (gA M 49))), (η 37, .inl (κ 1, 24, .inl (gA M 50))), (η 38, .inl (κ 1, 24, .inl (gA M 51))), (η 39, .inl (κ 0, 8, .inl (gA M 52))), (η 40, .inl (κ 0, 8, .inl (gA M 54)))]
def cf0 (η : Nat → Nat) (M : Sg) : List Value := [.ref (η 1), .ref (η 8), .ref (η 2), .ref (η 16), .ref (η 3), .ref (η 4), .ref (η 5), .ref (η 6), .ref (η 7), .int (gI M 23)]
def cf1 (η : Nat → Nat) (M : Sg) : List Value := [.ref (η 9), .ref (η 10), .ref (η 11), .ref (η 12), .ref (η 13), .int (gI M 0), .int (gI M 1), .int (gI M 2), .int (gI M 3)]
def cf2 (η : Nat → Nat) (M : Sg) : List Value := [.ref (η 14), .ref (η 15), .int (gI M 4)]
def cf3 (η : Nat → Nat) (M : Sg) : List Value := [.ref (η 17), .int (gI M 14)]
def cf4 (η : Nat → Nat) (M : Sg) : List Value := [.ref (η 26), .ref (η 27), .int (gI M 19), .int (gI M 20), .int (gI M 21), (if gI M 25 = 1 then .ref (η 17) else .null), .int (gI M 22), (if gI M 24 = 1 then .ref (η 7) else if gI M 24 = 2 then .ref (η 6) else .null)]
def cf5 (η : Nat → Nat) (M : Sg) : List Value := [.ref (η 28), .ref (η 29), .ref (η 30), .ref (η 31), .ref (η 32), .ref (η 36), .ref (η 33), .ref (η 34), .ref (η 35), .int (gI M 5), .int (gI M 6), .int (gI M 7), .int (gI M 8), .int (gI M 9), .int (gI M 10), .int (gI M 11), .int (gI M 12), .int (gI M 13)]
def cf6 (η : Nat → Nat) (M : Sg) : List Value := [.ref (η 18), .ref (η 19), .ref (η 20), .ref (η 21), .int (gI M 15), .int (gI M 16)]
def cf7 (η : Nat → Nat) (M : Sg) : List Value := [.ref (η 22), .ref (η 23), .ref (η 24), .ref (η 25), .int (gI M 17), .int (gI M 18)]
def cfx (κ : Nat → ClassId) (η : Nat → Nat) (n : Nat) (M : Sg) : va_W := [(η 0, .inr (7, cf0 η M)), (η 1, .inr (0, cf1 η M)), (η 2, .inr (2, cf2 η M)), (η 3, .inr (4, cf3 η M)), (η 4, .inr (6, cf4 η M)), (η 5, .inr (3, cf5 η M)), (η 6, .inr (5, cf6 η M)), (η 7, .inr (5, cf7 η M)), (η 8, .inl (κ 4, 60, .inr (.inr (.inr (.inr (fun i => if i < n then some (η (49 + i)) else none)))))), (η 9, .inl (κ 0, 480, .inl (gA M 0))), (η 10, .inl (κ 1, 60, .inl (gA M 1))), (η 11, .inl (κ 0, 2880, .inl (gA M 2))), (η 12, .inl (κ 0, 8, .inl (gA M 3))), (η 13, .inl (κ 0, 8, .inl (gA M 4))), (η 14, .inl (κ 0, 60, .inl (gA M 5))), (η 15, .inl (κ 0, 60, .inl (gA M 6))), (η 16, .inl (κ 0, 6, .inl (gA M 7))), (η 17, .inl (κ 2, 600, .inl (gA M 8))), (η 18, .inl (κ 0, 16, .inl (gA M 9))), (η 19, .inl (κ 0, 16, .inl (gA M 10))), (η 20, .inl (κ 0, 600, .inl (gA M 11))), (η 21, .inl (κ 0, 16, .inl (gA M 12))), (η 22, .inl (κ 0, 16, .inl (gA M 13))), (η 23, .inl (κ 0, 16, .inl (gA M 14))), (η 24, .inl (κ 0, 600, .inl (gA M 15))), (η 25, .inl (κ 0, 16, .inl (gA M 16))), (η 26, .inl (κ 0, 601, .inl (gA M 17))), (η 27, .inl (κ 0, 601, .inl (gA M 18))), (η 28, .inl (κ 0, 24, .inl (gA M 19))), (η 29, .inl (κ 0, 24, .inl (gA M 20))), (η 30, .inl (κ 0, 24, .inl (gA M 21))), (η 31, .inl (κ 0, 24, .inl (gA M 22))), (η 32, .inl (κ 1, 24, .inl (gA M 23))), (η 33, .inl (κ 0, 12, .inl (gA M 24))), (η 34, .inl (κ 0, 8, .inl (gA M 25))), (η 35, .inl (κ 0, 8, .inl (gA M 26))), (η 36, .inl (κ 5, 12, .inr (.inr (.inr (.inr (fun i => if i < 12 then some (η (37 + i)) else none))))))]
def lfl (M : Sg) (j : Nat) : List Value := [.int (gA M 50 j), .int (gA M 51 j), .int (gA M 52 j), .int (gA M 53 j), .int (gA M 54 j), .int (gA M 55 j), .int (gA M 56 j), .int (gA M 57 j), .int (gA M 58 j), .int (gA M 59 j), .int (gA M 60 j), .int (gA M 61 j)]
def crw (κ : Nat → ClassId) (η : Nat → Nat) (M : Sg) (i : Nat) : Nat × va_E := (η (37 + i), .inl (κ 0, 4, .inl (gA M (30 + i))))
def clr (η : Nat → Nat) (M : Sg) (j : Nat) : Nat × va_E := (η (49 + j), .inr (1, lfl M j))
def cw (κ : Nat → ClassId) (η : Nat → Nat) (n : Nat) (M : Sg) : va_W := cfx κ η n M ++ ((List.range 12).map (crw κ η M) ++ (List.range n).map (clr η M))
def sLen : List Nat := [5, 4, 3, 4, 4, 5, 5, 4, 3, 15, 12]
def sByt : List (List Int32) := [[102, 105, 114, 115, 116], [119, 104, 101, 110], [97, 110, 100], [115, 111, 114, 116], [116, 111, 119, 110], [119, 97, 105, 116, 115], [116, 114, 105, 101, 115], [108, 101, 102, 116], [100, 97, 121], [110, 111, 32, 115, 117, 99, 104, 32, 108, 101, 97, 114, 110, 101, 114], [110, 111, 32, 115, 117, 99, 104, 32, 119, 104, 97, 116]]
def cNn (U : State) : Prop := va_Nw (.methodLinkNest RX0 42 yX8_isDay RX8) U ∧ va_Nw (.methodLinkNest RX0 56 yX8_dayOf RX8) U ∧ va_Nw (.methodLinkNest RX0 63 yX8_hourOf RX8) U ∧ va_Nw (.methodLinkNest RX0 66 yX8_examinerOf RX8) U ∧ va_Nw (.methodLinkNest RX0 81 yX8_slotOf RX8) U ∧ va_Nw (.methodLinkNest RX3 50 yX8_isWithin RX8) U ∧ va_Nw (.methodLinkNest RX4 13 yX8_isWithin RX8) U ∧ va_Nw (.methodLinkNest RX8 24 yX2_init RX8) U ∧ va_Nw (.methodLinkNest RX8 37 yX4_init RX8) U ∧ va_Nw (.methodLinkNest RX8 44 yX6_init RX8) U ∧ va_Nw (.methodLinkNest RX8 51 yX3_init RX8) U ∧ va_Nw (.methodLinkNest RX8 56 yX5_init RX8) U
def cNr (σ : (Nat → Nat) × (Nat → Nat)) (U : State) : Prop := vk_R "TestHall$TextReader" 120 "first" (σ.1 0) U ∧ vk_R "TestHall$TextReader" 126 "when" (σ.1 1) U ∧ vk_R "TestHall$TextReader" 128 "and" (σ.1 2) U ∧ vk_R "TestHall$TextReader" 130 "sort" (σ.1 3) U ∧ vk_R "TestHall$TextReader" 132 "town" (σ.1 4) U ∧ vk_R "TestHall$TextReader" 134 "waits" (σ.1 5) U ∧ vk_R "TestHall$TextReader" 136 "tries" (σ.1 6) U ∧ vk_R "TestHall$TextReader" 138 "left" (σ.1 7) U ∧ vk_R "TestHall$TextReader" 140 "day" (σ.1 8) U ∧ vk_R "TestHall" 188 "no such learner" (σ.1 9) U ∧ vk_R "TestHall" 199 "no such what" (σ.1 10) U
def cN (σ : (Nat → Nat) × (Nat → Nat)) (A : Nat → Prop) (U : State) : Prop := cNn U ∧ cNr σ U ∧ vk_S 11 sLen sByt σ.1 σ.2 A U U.heap ∧ va_Z "java/lang/String" "COMPACT_STRINGS" "Z" (.int 1) A U U.heap ∧ va_Zq "jdk/internal/util/Preconditions" "SIOOBE_FORMATTER" "Ljava/util/function/BiFunction;" A U U.heap
theorem cNn_warm {s U : State} (hW : s.WarmedH U.vm) (h : cNn s) : cNn U := ⟨va_Nw.warmM hW h.1, va_Nw.warmM hW h.2.1, va_Nw.warmM hW h.2.2.1, va_Nw.warmM hW h.2.2.2.1, va_Nw.warmM hW h.2.2.2.2.1, va_Nw.warmM hW h.2.2.2.2.2.1, va_Nw.warmM hW h.2.2.2.2.2.2.1, va_Nw.warmM hW h.2.2.2.2.2.2.2.1, va_Nw.warmM hW h.2.2.2.2.2.2.2.2.1, va_Nw.warmM hW h.2.2.2.2.2.2.2.2.2.1, va_Nw.warmM hW h.2.2.2.2.2.2.2.2.2.2.1, va_Nw.warmM hW h.2.2.2.2.2.2.2.2.2.2.2⟩
theorem cNn_same {u U : State} (e : u.vm = U.vm) (h : cNn u) : cNn U := ⟨va_Nw.same rfl e h.1, va_Nw.same rfl e h.2.1, va_Nw.same rfl e h.2.2.1, va_Nw.same rfl e h.2.2.2.1, va_Nw.same rfl e h.2.2.2.2.1, va_Nw.same rfl e h.2.2.2.2.2.1, va_Nw.same rfl e h.2.2.2.2.2.2.1, va_Nw.same rfl e h.2.2.2.2.2.2.2.1, va_Nw.same rfl e h.2.2.2.2.2.2.2.2.1, va_Nw.same rfl e h.2.2.2.2.2.2.2.2.2.1, va_Nw.same rfl e h.2.2.2.2.2.2.2.2.2.2.1, va_Nw.same rfl e h.2.2.2.2.2.2.2.2.2.2.2⟩
theorem cNr_warm {σ : (Nat → Nat) × (Nat → Nat)} {s U : State} (hW : s.WarmedH U.vm) (h : cNr σ s) : cNr σ U := ⟨vk_R.warm hW h.1, vk_R.warm hW h.2.1, vk_R.warm hW h.2.2.1, vk_R.warm hW h.2.2.2.1, vk_R.warm hW h.2.2.2.2.1, vk_R.warm hW h.2.2.2.2.2.1, vk_R.warm hW h.2.2.2.2.2.2.1, vk_R.warm hW h.2.2.2.2.2.2.2.1, vk_R.warm hW h.2.2.2.2.2.2.2.2.1, vk_R.warm hW h.2.2.2.2.2.2.2.2.2.1, vk_R.warm hW h.2.2.2.2.2.2.2.2.2.2⟩
theorem cNr_same {σ : (Nat → Nat) × (Nat → Nat)} {u U : State} (e : U.vm = u.vm) (h : cNr σ u) : cNr σ U := ⟨vk_R.same e h.1, vk_R.same e h.2.1, vk_R.same e h.2.2.1, vk_R.same e h.2.2.2.1, vk_R.same e h.2.2.2.2.1, vk_R.same e h.2.2.2.2.2.1, vk_R.same e h.2.2.2.2.2.2.1, vk_R.same e h.2.2.2.2.2.2.2.1, vk_R.same e h.2.2.2.2.2.2.2.2.1, vk_R.same e h.2.2.2.2.2.2.2.2.2.1, vk_R.same e h.2.2.2.2.2.2.2.2.2.2⟩
theorem cN_ok {σ : (Nat → Nat) × (Nat → Nat)} : NP (cN σ) := by
  refine ⟨fun A B s U hW hq hAB h => ?_, fun A u U e1 e2 h => ?_⟩
  · obtain ⟨h1, h2, h3, h4, h5⟩ := h
    exact ⟨cNn_warm hW h1, cNr_warm hW h2, ((h3.kept hq).narrow hAB).moved hW.alike, ((h4.kept hq).narrow hAB).moved hW.alike, ((h5.kept hq).narrow hAB).moved hW.alike⟩
  · obtain ⟨h1, h2, h3, h4, h5⟩ := h
    have ha : u.vm.Alike U.vm := by rw [e1]; exact Vm.Alike.refl _
    exact ⟨cNn_same e1 h1, cNr_same e1.symm h2, by rw [← e2]; exact h3.moved ha, by rw [← e2]; exact h4.moved ha, by rw [← e2]; exact h5.moved ha⟩
theorem cN_X0_42 {σ : (Nat → Nat) × (Nat → Nat)} {A : Nat → Prop} {U : State} (h : cN σ A U) : va_Nw (.methodLinkNest RX0 42 yX8_isDay RX8) U := h.1.1
theorem cN_X0_56 {σ : (Nat → Nat) × (Nat → Nat)} {A : Nat → Prop} {U : State} (h : cN σ A U) : va_Nw (.methodLinkNest RX0 56 yX8_dayOf RX8) U := h.1.2.1
theorem cN_X0_63 {σ : (Nat → Nat) × (Nat → Nat)} {A : Nat → Prop} {U : State} (h : cN σ A U) : va_Nw (.methodLinkNest RX0 63 yX8_hourOf RX8) U := h.1.2.2.1
theorem cN_X0_66 {σ : (Nat → Nat) × (Nat → Nat)} {A : Nat → Prop} {U : State} (h : cN σ A U) : va_Nw (.methodLinkNest RX0 66 yX8_examinerOf RX8) U := h.1.2.2.2.1
theorem cN_X0_81 {σ : (Nat → Nat) × (Nat → Nat)} {A : Nat → Prop} {U : State} (h : cN σ A U) : va_Nw (.methodLinkNest RX0 81 yX8_slotOf RX8) U := h.1.2.2.2.2.1
theorem cN_X3_50 {σ : (Nat → Nat) × (Nat → Nat)} {A : Nat → Prop} {U : State} (h : cN σ A U) : va_Nw (.methodLinkNest RX3 50 yX8_isWithin RX8) U := h.1.2.2.2.2.2.1
theorem cN_X4_13 {σ : (Nat → Nat) × (Nat → Nat)} {A : Nat → Prop} {U : State} (h : cN σ A U) : va_Nw (.methodLinkNest RX4 13 yX8_isWithin RX8) U := h.1.2.2.2.2.2.2.1
theorem cN_X8_24 {σ : (Nat → Nat) × (Nat → Nat)} {A : Nat → Prop} {U : State} (h : cN σ A U) : va_Nw (.methodLinkNest RX8 24 yX2_init RX8) U := h.1.2.2.2.2.2.2.2.1
theorem cN_X8_37 {σ : (Nat → Nat) × (Nat → Nat)} {A : Nat → Prop} {U : State} (h : cN σ A U) : va_Nw (.methodLinkNest RX8 37 yX4_init RX8) U := h.1.2.2.2.2.2.2.2.2.1
theorem cN_X8_44 {σ : (Nat → Nat) × (Nat → Nat)} {A : Nat → Prop} {U : State} (h : cN σ A U) : va_Nw (.methodLinkNest RX8 44 yX6_init RX8) U := h.1.2.2.2.2.2.2.2.2.2.1
theorem cN_X8_51 {σ : (Nat → Nat) × (Nat → Nat)} {A : Nat → Prop} {U : State} (h : cN σ A U) : va_Nw (.methodLinkNest RX8 51 yX3_init RX8) U := h.1.2.2.2.2.2.2.2.2.2.2.1
theorem cN_X8_56 {σ : (Nat → Nat) × (Nat → Nat)} {A : Nat → Prop} {U : State} (h : cN σ A U) : va_Nw (.methodLinkNest RX8 56 yX5_init RX8) U := h.1.2.2.2.2.2.2.2.2.2.2.2
theorem cN_str0 {σ : (Nat → Nat) × (Nat → Nat)} {A : Nat → Prop} {U : State} (h : cN σ A U) : vk_R "TestHall$TextReader" 120 "first" (σ.1 0) U := h.2.1.1
theorem cN_str1 {σ : (Nat → Nat) × (Nat → Nat)} {A : Nat → Prop} {U : State} (h : cN σ A U) : vk_R "TestHall$TextReader" 126 "when" (σ.1 1) U := h.2.1.2.1
theorem cN_str2 {σ : (Nat → Nat) × (Nat → Nat)} {A : Nat → Prop} {U : State} (h : cN σ A U) : vk_R "TestHall$TextReader" 128 "and" (σ.1 2) U := h.2.1.2.2.1
theorem cN_str3 {σ : (Nat → Nat) × (Nat → Nat)} {A : Nat → Prop} {U : State} (h : cN σ A U) : vk_R "TestHall$TextReader" 130 "sort" (σ.1 3) U := h.2.1.2.2.2.1
theorem cN_str4 {σ : (Nat → Nat) × (Nat → Nat)} {A : Nat → Prop} {U : State} (h : cN σ A U) : vk_R "TestHall$TextReader" 132 "town" (σ.1 4) U := h.2.1.2.2.2.2.1
theorem cN_str5 {σ : (Nat → Nat) × (Nat → Nat)} {A : Nat → Prop} {U : State} (h : cN σ A U) : vk_R "TestHall$TextReader" 134 "waits" (σ.1 5) U := h.2.1.2.2.2.2.2.1
theorem cN_str6 {σ : (Nat → Nat) × (Nat → Nat)} {A : Nat → Prop} {U : State} (h : cN σ A U) : vk_R "TestHall$TextReader" 136 "tries" (σ.1 6) U := h.2.1.2.2.2.2.2.2.1
theorem cN_str7 {σ : (Nat → Nat) × (Nat → Nat)} {A : Nat → Prop} {U : State} (h : cN σ A U) : vk_R "TestHall$TextReader" 138 "left" (σ.1 7) U := h.2.1.2.2.2.2.2.2.2.1
theorem cN_str8 {σ : (Nat → Nat) × (Nat → Nat)} {A : Nat → Prop} {U : State} (h : cN σ A U) : vk_R "TestHall$TextReader" 140 "day" (σ.1 8) U := h.2.1.2.2.2.2.2.2.2.2.1
theorem cN_str9 {σ : (Nat → Nat) × (Nat → Nat)} {A : Nat → Prop} {U : State} (h : cN σ A U) : vk_R "TestHall" 188 "no such learner" (σ.1 9) U := h.2.1.2.2.2.2.2.2.2.2.2.1
theorem cN_str10 {σ : (Nat → Nat) × (Nat → Nat)} {A : Nat → Prop} {U : State} (h : cN σ A U) : vk_R "TestHall" 199 "no such what" (σ.1 10) U := h.2.1.2.2.2.2.2.2.2.2.2.2
theorem gI_sA (M : Sg) (b i : Nat) (v : Int32) (k : Nat) : gI (sA M b i v) k = gI M k := rfl
theorem gA_sI (M : Sg) (k : Nat) (v : Int32) (a : Nat) : gA (sI M k v) a = gA M a := rfl
theorem gJ_sI (M : Sg) (k : Nat) (v : Int32) (a : Nat) : gJ (sI M k v) a = gJ M a := rfl
theorem gJ_sA (M : Sg) (b i : Nat) (v : Int32) (a : Nat) : gJ (sA M b i v) a = gJ M a := rfl
theorem gI_sJ (M : Sg) (b i : Nat) (v : Int64) (k : Nat) : gI (sJ M b i v) k = gI M k := rfl
theorem gA_sJ (M : Sg) (b i : Nat) (v : Int64) (a : Nat) : gA (sJ M b i v) a = gA M a := rfl
theorem gI_sI (M : Sg) (k : Nat) (v : Int32) (j : Nat) : gI (sI M k v) j = if j = k then v else gI M j := rfl
theorem gA_sA (M : Sg) (b i : Nat) (v : Int32) (a : Nat) : gA (sA M b i v) a = if a = b then upd (gA M b) i v else gA M a := rfl
theorem gJ_sJ (M : Sg) (b i : Nat) (v : Int64) (a : Nat) : gJ (sJ M b i v) a = if a = b then vp_updL (gJ M b) i v else gJ M a := rfl
theorem range_set {α : Type} {f g : Nat → α} {n j : Nat} {x : α} (h1 : g j = x) (h2 : ∀ i, i < n → i ≠ j → g i = f i) : ((List.range n).map f).set j x = (List.range n).map g := by
  apply List.ext_getElem?
  intro k
  by_cases hk : k < n
  · by_cases e : k = j
    · subst e
      rw [List.getElem?_set_self (by simpa using hk), List.getElem?_map, List.getElem?_range hk, ← h1]
      rfl
    · rw [List.getElem?_set_ne (Ne.symm e), List.getElem?_map, List.getElem?_map, List.getElem?_range hk]
      simp [h2 k hk e]
  · rw [List.getElem?_eq_none (by simpa using Nat.le_of_not_lt hk), List.getElem?_eq_none (by simpa using Nat.le_of_not_lt hk)]
theorem cfx_len (κ : Nat → ClassId) (η : Nat → Nat) (n : Nat) (M : Sg) : (cfx κ η n M).length = 37 := rfl
theorem cw_row {κ : Nat → ClassId} {η : Nat → Nat} {n : Nat} {M : Sg} {i : Nat} (hi : i < 12) : (cw κ η n M)[37 + i]? = some (η (37 + i), .inl (κ 0, 4, .inl (gA M (30 + i)))) := by
  rw [cw, List.getElem?_append_right (by rw [cfx_len]; omega), cfx_len, List.getElem?_append_left (by simp; omega), Nat.add_sub_cancel_left, List.getElem?_map, List.getElem?_range hi]
  rfl
theorem cw_lrn {κ : Nat → ClassId} {η : Nat → Nat} {n : Nat} {M : Sg} {j : Nat} (hj : j < n) : (cw κ η n M)[49 + j]? = some (η (49 + j), .inr (1, lfl M j)) := by
  rw [cw, List.getElem?_append_right (by rw [cfx_len]; omega), cfx_len, List.getElem?_append_right (by simp; omega), List.length_map, List.length_range, show 49 + j - 37 - 12 = j by omega, List.getElem?_map, List.getElem?_range hj]
  rfl
theorem cfx_sA {κ : Nat → ClassId} {η : Nat → Nat} {n : Nat} {M : Sg} {b i : Nat} {v : Int32} (hb : 27 ≤ b) : cfx κ η n (sA M b i v) = cfx κ η n M := by
  have e : ∀ a, a < 27 → gA (sA M b i v) a = gA M a := fun a h => by rw [gA_sA, if_neg (by omega)]
  unfold cfx
  rw [e 0 (by decide), e 1 (by decide), e 2 (by decide), e 3 (by decide), e 4 (by decide), e 5 (by decide), e 6 (by decide), e 7 (by decide), e 8 (by decide), e 9 (by decide), e 10 (by decide), e 11 (by decide), e 12 (by decide), e 13 (by decide), e 14 (by decide), e 15 (by decide), e 16 (by decide), e 17 (by decide), e 18 (by decide), e 19 (by decide), e 20 (by decide), e 21 (by decide), e 22 (by decide), e 23 (by decide), e 24 (by decide), e 25 (by decide), e 26 (by decide)]
  rfl
theorem cw_rset {κ : Nat → ClassId} {η : Nat → Nat} {n : Nat} {M : Sg} {c i : Nat} {v : Int32} (hc : c < 12) : (cw κ η n M).set (37 + c) (η (37 + c), .inl (κ 0, 4, .inl (upd (gA M (30 + c)) i v))) = cw κ η n (sA M (30 + c) i v) := by
  unfold cw
  rw [cfx_sA (by omega), List.set_append_right _ _ (by rw [cfx_len]; omega), cfx_len, Nat.add_sub_cancel_left, List.set_append_left _ _ (by simp; exact hc)]
  congr 2
  · apply range_set
    · unfold crw
      rw [gA_sA, if_pos rfl]
    · intro k hk e
      unfold crw
      rw [gA_sA, if_neg (by omega)]
  · apply List.map_congr_left
    intro j hj
    unfold clr lfl
    have e : ∀ a, 50 ≤ a → gA (sA M (30 + c) i v) a = gA M a := fun a h => by rw [gA_sA, if_neg (by omega)]
    rw [e 50 (by decide), e 51 (by decide), e 52 (by decide), e 53 (by decide), e 54 (by decide), e 55 (by decide), e 56 (by decide), e 57 (by decide), e 58 (by decide), e 59 (by decide), e 60 (by decide), e 61 (by decide)]
theorem cw_lsetG {κ : Nat → ClassId} {η : Nat → Nat} {n : Nat} {M : Sg} {j : Nat} {v : Int32} (b : Nat) (hb : 50 ≤ b) (hj : j < n) {fs : List Value} (h1 : lfl (sA M b j v) j = fs) (h2 : ∀ i, i ≠ j → lfl (sA M b j v) i = lfl M i) : (cw κ η n M).set (49 + j) (η (49 + j), .inr (1, fs)) = cw κ η n (sA M b j v) := by
  unfold cw
  rw [cfx_sA (by omega), List.set_append_right _ _ (by rw [cfx_len]; omega), cfx_len, List.set_append_right _ _ (by simp; omega), List.length_map, List.length_range, show 49 + j - 37 - 12 = j by omega]
  congr 2
  · apply List.map_congr_left
    intro i hi
    have hi := List.mem_range.mp hi
    unfold crw
    rw [gA_sA, if_neg (by omega)]
  · apply range_set
    · unfold clr
      rw [h1]
    · intro k hk e
      unfold clr
      rw [h2 k e]
theorem cw_lset0 {κ : Nat → ClassId} {η : Nat → Nat} {n : Nat} {M : Sg} {j : Nat} {v : Int32} (hj : j < n) : (cw κ η n M).set (49 + j) (η (49 + j), .inr (1, (lfl M j).set 0 (.int v))) = cw κ η n (sA M 50 j v) := cw_lsetG 50 (by decide) hj (by simp [lfl, gA_sA, upd]) (fun i e => by simp [lfl, gA_sA, upd, e])
theorem cw_lset1 {κ : Nat → ClassId} {η : Nat → Nat} {n : Nat} {M : Sg} {j : Nat} {v : Int32} (hj : j < n) : (cw κ η n M).set (49 + j) (η (49 + j), .inr (1, (lfl M j).set 1 (.int v))) = cw κ η n (sA M 51 j v) := cw_lsetG 51 (by decide) hj (by simp [lfl, gA_sA, upd]) (fun i e => by simp [lfl, gA_sA, upd, e])
theorem cw_lset2 {κ : Nat → ClassId} {η : Nat → Nat} {n : Nat} {M : Sg} {j : Nat} {v : Int32} (hj : j < n) : (cw κ η n M).set (49 + j) (η (49 + j), .inr (1, (lfl M j).set 2 (.int v))) = cw κ η n (sA M 52 j v) := cw_lsetG 52 (by decide) hj (by simp [lfl, gA_sA, upd]) (fun i e => by simp [lfl, gA_sA, upd, e])
theorem cw_lset3 {κ : Nat → ClassId} {η : Nat → Nat} {n : Nat} {M : Sg} {j : Nat} {v : Int32} (hj : j < n) : (cw κ η n M).set (49 + j) (η (49 + j), .inr (1, (lfl M j).set 3 (.int v))) = cw κ η n (sA M 53 j v) := cw_lsetG 53 (by decide) hj (by simp [lfl, gA_sA, upd]) (fun i e => by simp [lfl, gA_sA, upd, e])
theorem cw_lset4 {κ : Nat → ClassId} {η : Nat → Nat} {n : Nat} {M : Sg} {j : Nat} {v : Int32} (hj : j < n) : (cw κ η n M).set (49 + j) (η (49 + j), .inr (1, (lfl M j).set 4 (.int v))) = cw κ η n (sA M 54 j v) := cw_lsetG 54 (by decide) hj (by simp [lfl, gA_sA, upd]) (fun i e => by simp [lfl, gA_sA, upd, e])
theorem cw_lset5 {κ : Nat → ClassId} {η : Nat → Nat} {n : Nat} {M : Sg} {j : Nat} {v : Int32} (hj : j < n) : (cw κ η n M).set (49 + j) (η (49 + j), .inr (1, (lfl M j).set 5 (.int v))) = cw κ η n (sA M 55 j v) := cw_lsetG 55 (by decide) hj (by simp [lfl, gA_sA, upd]) (fun i e => by simp [lfl, gA_sA, upd, e])
theorem cw_lset6 {κ : Nat → ClassId} {η : Nat → Nat} {n : Nat} {M : Sg} {j : Nat} {v : Int32} (hj : j < n) : (cw κ η n M).set (49 + j) (η (49 + j), .inr (1, (lfl M j).set 6 (.int v))) = cw κ η n (sA M 56 j v) := cw_lsetG 56 (by decide) hj (by simp [lfl, gA_sA, upd]) (fun i e => by simp [lfl, gA_sA, upd, e])
theorem cw_lset7 {κ : Nat → ClassId} {η : Nat → Nat} {n : Nat} {M : Sg} {j : Nat} {v : Int32} (hj : j < n) : (cw κ η n M).set (49 + j) (η (49 + j), .inr (1, (lfl M j).set 7 (.int v))) = cw κ η n (sA M 57 j v) := cw_lsetG 57 (by decide) hj (by simp [lfl, gA_sA, upd]) (fun i e => by simp [lfl, gA_sA, upd, e])
theorem cw_lset8 {κ : Nat → ClassId} {η : Nat → Nat} {n : Nat} {M : Sg} {j : Nat} {v : Int32} (hj : j < n) : (cw κ η n M).set (49 + j) (η (49 + j), .inr (1, (lfl M j).set 8 (.int v))) = cw κ η n (sA M 58 j v) := cw_lsetG 58 (by decide) hj (by simp [lfl, gA_sA, upd]) (fun i e => by simp [lfl, gA_sA, upd, e])
theorem cw_lset9 {κ : Nat → ClassId} {η : Nat → Nat} {n : Nat} {M : Sg} {j : Nat} {v : Int32} (hj : j < n) : (cw κ η n M).set (49 + j) (η (49 + j), .inr (1, (lfl M j).set 9 (.int v))) = cw κ η n (sA M 59 j v) := cw_lsetG 59 (by decide) hj (by simp [lfl, gA_sA, upd]) (fun i e => by simp [lfl, gA_sA, upd, e])
theorem cw_lset10 {κ : Nat → ClassId} {η : Nat → Nat} {n : Nat} {M : Sg} {j : Nat} {v : Int32} (hj : j < n) : (cw κ η n M).set (49 + j) (η (49 + j), .inr (1, (lfl M j).set 10 (.int v))) = cw κ η n (sA M 60 j v) := cw_lsetG 60 (by decide) hj (by simp [lfl, gA_sA, upd]) (fun i e => by simp [lfl, gA_sA, upd, e])
theorem cw_lset11 {κ : Nat → ClassId} {η : Nat → Nat} {n : Nat} {M : Sg} {j : Nat} {v : Int32} (hj : j < n) : (cw κ η n M).set (49 + j) (η (49 + j), .inr (1, (lfl M j).set 11 (.int v))) = cw κ η n (sA M 61 j v) := cw_lsetG 61 (by decide) hj (by simp [lfl, gA_sA, upd]) (fun i e => by simp [lfl, gA_sA, upd, e])
theorem rd_signs {η : Nat → Nat} {M : Sg} (hg : gI M 25 = 1) : (cf4 η M)[5]? = some (.ref (η 17)) := by
  show some (if gI M 25 = 1 then Value.ref (η 17) else .null) = _
  rw [if_pos hg]
theorem rd_text {η : Nat → Nat} {M : Sg} (hg : gI M 24 = 1) : (cf4 η M)[7]? = some (.ref (η 7)) := by
  show some (if gI M 24 = 1 then Value.ref (η 7) else if gI M 24 = 2 then .ref (η 6) else .null) = _
  rw [if_pos hg]
theorem cw_signs {κ : Nat → ClassId} {η : Nat → Nat} {n : Nat} {M : Sg} : (cw κ η n M).set 4 (η 4, .inr (6, (cf4 η M).set 5 (.ref (η 17)))) = cw κ η n (sI M 25 1) := by
  have e : cf4 η (sI M 25 1) = (cf4 η M).set 5 (.ref (η 17)) := by simp [cf4, gI_sI]
  rw [← e]
  rfl
theorem cw_text {κ : Nat → ClassId} {η : Nat → Nat} {n : Nat} {M : Sg} : (cw κ η n M).set 4 (η 4, .inr (6, (cf4 η M).set 7 (.ref (η 7)))) = cw κ η n (sI M 24 1) := by
  have e : cf4 η (sI M 24 1) = (cf4 η M).set 7 (.ref (η 7)) := by simp [cf4, gI_sI]
  rw [← e]
  rfl
section GenC
variable {p : Program} {l : Launch} {e : Env} {R : Room} {s : State} {m : MethodId} {args : Array Value} {below : List Frame} {meth : Method} {c : Code} {H : Heap} {locs : List Loc} {QQ : State → Prop} {cells slots : Nat}
variable {cc : ByteArray} {pc nL : Nat} {ls : Array Slot} {rest : List Value} {N : (Nat → Prop) → State → Prop} {D : va_G} {A : Nat → Prop} {κ : Nat → ClassId} {η : Nat → Nat} {n : Nat} {Ts : List Cond} {own : String} {M : Sg}
theorem r_lrn {i : Int32} (X : CallFix p m c cc nL s args Ts own) (hw : Wd N D (Ky κ) A s (cw κ η n M) H locs) (hi : vp_in i 60) (hn : i.toNatClampNeg < n) (hdg : decode cc pc = .ok (.aaload, 1))
    (kk : W p l e R s m args below meth c H locs cells slots QQ (F0 m (pc + 1) ls (.ref (η (49 + i.toNatClampNeg)) :: rest))) : W p l e R s m args below meth c H locs cells slots QQ (F0 m pc ls (.int i :: .ref (η 8) :: rest)) := by
  refine va_aldq (C := "TestHall$Learner") X.1 X.2.1 hw.2.2.2.1 hw.1 8 4 rfl rfl hi hdg ?_
  show W p l e R s m args below meth c H locs cells slots QQ (F0 m (pc + 1) ls (va_rf (if i.toNatClampNeg < n then some (η (49 + i.toNatClampNeg)) else none) :: rest))
  rw [if_pos hn]
  exact kk
theorem r_row {i : Int32} (X : CallFix p m c cc nL s args Ts own) (hw : Wd N D (Ky κ) A s (cw κ η n M) H locs) (hi : vp_in i 12) (hdg : decode cc pc = .ok (.aaload, 1))
    (kk : W p l e R s m args below meth c H locs cells slots QQ (F0 m (pc + 1) ls (.ref (η (37 + i.toNatClampNeg)) :: rest))) : W p l e R s m args below meth c H locs cells slots QQ (F0 m pc ls (.int i :: .ref (η 36) :: rest)) := by
  have hlt : i.toNatClampNeg < 12 := Nat.not_le.mp fun q => hi (Or.inr q)
  have k2 : W p l e R s m args below meth c H locs cells slots QQ (F0 m (pc + 1) ls (va_rf (if i.toNatClampNeg < 12 then some (η (37 + i.toNatClampNeg)) else none) :: rest)) := by rw [if_pos hlt]; exact kk
  exact W.aald (v := va_rf (if i.toNatClampNeg < 12 then some (η (37 + i.toNatClampNeg)) else none)) (ty := .array .int) X.1 X.2.1 (hw.1 36 _ rfl) ((hw.2.2.2.1.2 5 _ rfl).1 12 (fun j => va_rf (if j < 12 then some (η (37 + j)) else none))) rfl (fun q => by cases q) (by show ¬ (i < 0 ∨ (arrV _ _ _).slots.size ≤ _); rw [arrV_size]; exact hi) (by show (arrV _ _ _).slots[_]? = _; rw [arrV_read _ _ hlt]) rfl rfl hdg k2
theorem r_copy {index : Nat} (X : CallFix p m c cc nL s args Ts own) (hw : Wd N D (Ky κ) A s (cw κ η n M) H locs) (hl : ls.size = nL) (hlink : (Cond.methodLink own index arraycopyName).before args s = true) (hnat : (Cond.native arraycopyName).before args s = true) (hstat : (Cond.static arraycopyName).before args s = true) (hini : (Cond.initialized "java/lang/System").before args s = true) (hf : 1 ≤ R.frames) (hlo : (rest.map fun v => v.category).sum + (nativeFrameWords "java/lang/System" "arraycopy" 5 + 11) ≤ R.locals) (hdg : decode cc pc = .ok (.invokestatic index, 3))
    (kk : ∀ (H1 : Heap) (locs1 : List Loc), Wd N D (Ky κ) A s (cw κ η n (sR M 26 (va_cpy (gA M 25) (gA M 26) 0 0 8))) H1 locs1 → W p l e R s m args below meth c H1 locs1 0 0 QQ (F0 m (pc + 3) ls rest)) : W p l e R s m args below meth c H locs 0 0 QQ (F0 m pc ls (.int 8 :: .int 0 :: .ref (η 35) :: .int 0 :: .ref (η 34) :: rest)) := by
  obtain ⟨hP, hD, hS, hK, hA, hN⟩ := hw
  refine va_copyi (ty := .int) X.1 X.2.1 (X.2.2.1.trans hl.symm) X.2.2.2.1 hlink hnat hstat hini hK hP hD hS 34 35 0 0 rfl rfl rfl rfl rfl (by decide) (by decide) (by decide) (by decide) (by decide) (fun i _ => rfl) hf hlo hdg (fun H1 locs1 hP hD hS => ?_)
  exact kk H1 locs1 ⟨hP, hD, hS, hK, hA, hN⟩
end GenC

