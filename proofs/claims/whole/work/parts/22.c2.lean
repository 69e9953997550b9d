theorem inX5_clear_X5 : ∀ w ∈ wsX50, w ∈ wsX5_clear := fun w h => List.mem_cons_of_mem _ (List.mem_append_right _ h)
abbrev rmX5_clear : Room := { frames := 0, cells := 0, slots := 0, locals := 0 }
def wX5_clear (n : Nat) (M : Sg) (Q : Sg → Prop) : Prop := (∀ (M_1 : Sg), M_1 = sI M 17 (0 : Int32) → (∀ (M_2 : Sg), M_2 = sI M_1 18 (0 : Int32) → (Q M_2)))
set_option maxHeartbeats 4000000 in
set_option maxRecDepth 100000 in
theorem kX5_clear {l : Launch} {D : va_G} {κ : Nat → ClassId} {η : Nat → Nat} {σ : (Nat → Nat) × (Nat → Nat)} {n : Nat} {M : Sg} {Q : Sg → Prop} (h : wX5_clear n M Q) : Kv (cN σ) D (Ky κ) (cw κ η n) l yX5_clear wsX5_clear rmX5_clear [.ref (η 7)] M Q := by
  refine ofW_g (Qc := fun A => Qv D (Ky κ) (cw κ η n) A Q) (cc := cX5_clear) (maxL := 1) (ret := none) (by decide) rfl (Nat.le_of_ble_eq_true rfl) ?_
  intro p e s m args below meth c A ls X hr hlk hw hl
  have hl : lv_has ls 1 [(0, .ref (η 7))] := hl
  refine lv_aload_n X.1 X.2.1 dX5_clear_0 rfl (lv_at hl 0 rfl) ?_
  refine lv_iconst (v := (0 : Int32)) X.1 X.2.1 dX5_clear_1 (by decide) ?_
  refine r_pf (ty := .int) (w' := cw κ η n (sI M 17 (0 : Int32))) X inX5_clear_X5 tyX5_ok nmX5 hw 7 rfl rfl 4 (by decide) (X.2.2.2.2 (.fieldLink RX5 24 "TestHall$Text" "lines" "I") (by decide +kernel)) rfl rfl (by decide +kernel) rfl rfl (Nat.le_of_ble_eq_true rfl) rfl dX5_clear_2 (fun H locs hw => ?_)
  obtain ⟨M_1, eM_1⟩ : ∃ y : Sg, y = sI M 17 (0 : Int32) := ⟨_, rfl⟩
  rw [← eM_1] at hw
  have h := h M_1 eM_1
  refine lv_aload_n X.1 X.2.1 dX5_clear_5 rfl (lv_at hl 0 rfl) ?_
  refine lv_iconst (v := (0 : Int32)) X.1 X.2.1 dX5_clear_6 (by decide) ?_
  refine r_pf (ty := .int) (w' := cw κ η n (sI M_1 18 (0 : Int32))) X inX5_clear_X5 tyX5_ok nmX5 hw 7 rfl rfl 5 (by decide) (X.2.2.2.2 (.fieldLink RX5 28 "TestHall$Text" "size" "I") (by decide +kernel)) rfl rfl (by decide +kernel) rfl rfl (Nat.le_of_ble_eq_true rfl) rfl dX5_clear_7 (fun H locs hw => ?_)
  obtain ⟨M_2, eM_2⟩ : ∃ y : Sg, y = sI M_1 18 (0 : Int32) := ⟨_, rfl⟩
  rw [← eM_2] at hw
  have h := h M_2 eM_2
  exact r_vret X hr hlk hw h dX5_clear_10

theorem inX5_addCode_X5 : ∀ w ∈ wsX50, w ∈ wsX5_addCode := fun w h => List.mem_cons_of_mem _ (List.mem_append_right _ h)
abbrev rmX5_addCode : Room := { frames := 0, cells := 0, slots := 0, locals := 0 }
def wX5_addCode (n : Nat) (M : Sg) (a1 : Int32) (Q : Sg → Prop) : Prop := (((600 : Int32) ≤ (gI M 18) → (Q M)) ∧ (¬ (600 : Int32) ≤ (gI M 18) → (vp_in (gI M 18) 600 ∧ (∀ (M_1 : Sg), M_1 = sA M 15 (gI M 18).toNatClampNeg a1 → (∀ (M_2 : Sg), M_2 = sI M_1 18 ((gI M_1 18) + (1 : Int32)) → (Q M_2))))))
set_option maxHeartbeats 4000000 in
set_option maxRecDepth 100000 in
theorem kX5_addCode {l : Launch} {D : va_G} {κ : Nat → ClassId} {η : Nat → Nat} {σ : (Nat → Nat) × (Nat → Nat)} {n : Nat} {M : Sg} {a1 : Int32} {Q : Sg → Prop} (h : wX5_addCode n M a1 Q) : Kv (cN σ) D (Ky κ) (cw κ η n) l yX5_addCode wsX5_addCode rmX5_addCode [.ref (η 7), .int a1] M Q := by
  refine ofW_g (Qc := fun A => Qv D (Ky κ) (cw κ η n) A Q) (cc := cX5_addCode) (maxL := 2) (ret := none) (by decide) rfl (Nat.le_of_ble_eq_true rfl) ?_
  intro p e s m args below meth c A ls X hr hlk hw hl
  have hl : lv_has ls 2 [(0, .ref (η 7)), (1, .int a1)] := hl
  refine lv_aload_n X.1 X.2.1 dX5_addCode_0 rfl (lv_at hl 0 rfl) ?_
  refine r_gf X inX5_addCode_X5 hw 7 rfl rfl 5 (by decide) (X.2.2.2.2 (.fieldLink RX5 28 "TestHall$Text" "size" "I") (by decide +kernel)) rfl rfl dX5_addCode_1 ?_
  refine lv_aload_n X.1 X.2.1 dX5_addCode_4 rfl (lv_at hl 0 rfl) ?_
  refine r_gf X inX5_addCode_X5 hw 7 rfl rfl 2 (by decide) (X.2.2.2.2 (.fieldLink RX5 18 "TestHall$Text" "codes" "[I") (by decide +kernel)) rfl rfl dX5_addCode_5 ?_
  refine r_len (v := (600 : Int32)) X hw 24 0 rfl rfl (by show Int32.ofNat 600 = 600; decide) dX5_addCode_8 ?_
  obtain ⟨ht_, hf_⟩ := h
  refine lv_icmp_ge (tgt := 32) X.1 X.2.1 dX5_addCode_9 (by decide) (fun c_ => ?_) (fun c_ => ?_)
  · have h := ht_ c_
    exact r_vret X hr hlk hw h dX5_addCode_32
  · have h := hf_ c_
    refine lv_aload_n X.1 X.2.1 dX5_addCode_12 rfl (lv_at hl 0 rfl) ?_
    refine r_gf X inX5_addCode_X5 hw 7 rfl rfl 2 (by decide) (X.2.2.2.2 (.fieldLink RX5 18 "TestHall$Text" "codes" "[I") (by decide +kernel)) rfl rfl dX5_addCode_13 ?_
    refine lv_aload_n X.1 X.2.1 dX5_addCode_16 rfl (lv_at hl 0 rfl) ?_
    refine r_gf X inX5_addCode_X5 hw 7 rfl rfl 5 (by decide) (X.2.2.2.2 (.fieldLink RX5 28 "TestHall$Text" "size" "I") (by decide +kernel)) rfl rfl dX5_addCode_17 ?_
    refine lv_iload_n X.1 X.2.1 dX5_addCode_20 rfl (lv_at hl 1 rfl) ?_
    obtain ⟨hi_, h⟩ := h
    refine r_ias (w' := cw κ η n (sA M 15 (gI M 18).toNatClampNeg a1)) X hw 24 0 rfl rfl hi_ rfl dX5_addCode_21 (fun H locs hw => ?_)
    obtain ⟨M_1, eM_1⟩ : ∃ y : Sg, y = sA M 15 (gI M 18).toNatClampNeg a1 := ⟨_, rfl⟩
    rw [← eM_1] at hw
    have h := h M_1 eM_1
    refine lv_aload_n X.1 X.2.1 dX5_addCode_22 rfl (lv_at hl 0 rfl) ?_
    refine lv_dup X.1 X.2.1 dX5_addCode_23 rfl ?_
    refine r_gf X inX5_addCode_X5 hw 7 rfl rfl 5 (by decide) (X.2.2.2.2 (.fieldLink RX5 28 "TestHall$Text" "size" "I") (by decide +kernel)) rfl rfl dX5_addCode_24 ?_
    refine lv_iconst (v := (1 : Int32)) X.1 X.2.1 dX5_addCode_27 (by decide) ?_
    refine lv_iadd X.1 X.2.1 dX5_addCode_28 ?_
    refine r_pf (ty := .int) (w' := cw κ η n (sI M_1 18 ((gI M_1 18) + (1 : Int32)))) X inX5_addCode_X5 tyX5_ok nmX5 hw 7 rfl rfl 5 (by decide) (X.2.2.2.2 (.fieldLink RX5 28 "TestHall$Text" "size" "I") (by decide +kernel)) rfl rfl (by decide +kernel) rfl rfl (Nat.le_of_ble_eq_true rfl) rfl dX5_addCode_29 (fun H locs hw => ?_)
    obtain ⟨M_2, eM_2⟩ : ∃ y : Sg, y = sI M_1 18 ((gI M_1 18) + (1 : Int32)) := ⟨_, rfl⟩
    rw [← eM_2] at hw
    have h := h M_2 eM_2
    exact r_vret X hr hlk hw h dX5_addCode_32

theorem inX5_addLine_X5 : ∀ w ∈ wsX50, w ∈ wsX5_addLine := fun w h => List.mem_cons_of_mem _ (List.mem_append_right _ h)
abbrev rmX5_addLine : Room := { frames := 0, cells := 0, slots := 0, locals := 0 }
def wX5_addLine (n : Nat) (M : Sg) (a1 : Int32) (Q : Sg → Prop) : Prop := (((16 : Int32) ≤ (gI M 17) → (Q M)) ∧ (¬ (16 : Int32) ≤ (gI M 17) → (vp_in (gI M 17) 16 ∧ (∀ (M_1 : Sg), M_1 = sA M 13 (gI M 17).toNatClampNeg a1 → (vp_in (gI M_1 17) 16 ∧ (∀ (M_2 : Sg), M_2 = sA M_1 14 (gI M_1 17).toNatClampNeg (gI M_1 18) → (∀ (M_3 : Sg), M_3 = sI M_2 17 ((gI M_2 17) + (1 : Int32)) → (Q M_3))))))))
set_option maxHeartbeats 4000000 in
set_option maxRecDepth 100000 in
theorem kX5_addLine {l : Launch} {D : va_G} {κ : Nat → ClassId} {η : Nat → Nat} {σ : (Nat → Nat) × (Nat → Nat)} {n : Nat} {M : Sg} {a1 : Int32} {Q : Sg → Prop} (h : wX5_addLine n M a1 Q) : Kv (cN σ) D (Ky κ) (cw κ η n) l yX5_addLine wsX5_addLine rmX5_addLine [.ref (η 7), .int a1] M Q := by
  refine ofW_g (Qc := fun A => Qv D (Ky κ) (cw κ η n) A Q) (cc := cX5_addLine) (maxL := 2) (ret := none) (by decide) rfl (Nat.le_of_ble_eq_true rfl) ?_
  intro p e s m args below meth c A ls X hr hlk hw hl
  have hl : lv_has ls 2 [(0, .ref (η 7)), (1, .int a1)] := hl
  refine lv_aload_n X.1 X.2.1 dX5_addLine_0 rfl (lv_at hl 0 rfl) ?_
  refine r_gf X inX5_addLine_X5 hw 7 rfl rfl 4 (by decide) (X.2.2.2.2 (.fieldLink RX5 24 "TestHall$Text" "lines" "I") (by decide +kernel)) rfl rfl dX5_addLine_1 ?_
  refine lv_bipush (v := (16 : Int32)) X.1 X.2.1 dX5_addLine_4 (by decide) ?_
  obtain ⟨ht_, hf_⟩ := h
  refine lv_icmp_ge (tgt := 42) X.1 X.2.1 dX5_addLine_6 (by decide) (fun c_ => ?_) (fun c_ => ?_)
  · have h := ht_ c_
    exact r_vret X hr hlk hw h dX5_addLine_42
  · have h := hf_ c_
    refine lv_aload_n X.1 X.2.1 dX5_addLine_9 rfl (lv_at hl 0 rfl) ?_
    refine r_gf X inX5_addLine_X5 hw 7 rfl rfl 0 (by decide) (X.2.2.2.2 (.fieldLink RX5 9 "TestHall$Text" "firsts" "[I") (by decide +kernel)) rfl rfl dX5_addLine_10 ?_
    refine lv_aload_n X.1 X.2.1 dX5_addLine_13 rfl (lv_at hl 0 rfl) ?_
    refine r_gf X inX5_addLine_X5 hw 7 rfl rfl 4 (by decide) (X.2.2.2.2 (.fieldLink RX5 24 "TestHall$Text" "lines" "I") (by decide +kernel)) rfl rfl dX5_addLine_14 ?_
    refine lv_iload_n X.1 X.2.1 dX5_addLine_17 rfl (lv_at hl 1 rfl) ?_
    obtain ⟨hi_, h⟩ := h
    refine r_ias (w' := cw κ η n (sA M 13 (gI M 17).toNatClampNeg a1)) X hw 22 0 rfl rfl hi_ rfl dX5_addLine_18 (fun H locs hw => ?_)
    obtain ⟨M_1, eM_1⟩ : ∃ y : Sg, y = sA M 13 (gI M 17).toNatClampNeg a1 := ⟨_, rfl⟩
    rw [← eM_1] at hw
    have h := h M_1 eM_1
    refine lv_aload_n X.1 X.2.1 dX5_addLine_19 rfl (lv_at hl 0 rfl) ?_
    refine r_gf X inX5_addLine_X5 hw 7 rfl rfl 1 (by decide) (X.2.2.2.2 (.fieldLink RX5 13 "TestHall$Text" "ends" "[I") (by decide +kernel)) rfl rfl dX5_addLine_20 ?_
    refine lv_aload_n X.1 X.2.1 dX5_addLine_23 rfl (lv_at hl 0 rfl) ?_
    refine r_gf X inX5_addLine_X5 hw 7 rfl rfl 4 (by decide) (X.2.2.2.2 (.fieldLink RX5 24 "TestHall$Text" "lines" "I") (by decide +kernel)) rfl rfl dX5_addLine_24 ?_
    refine lv_aload_n X.1 X.2.1 dX5_addLine_27 rfl (lv_at hl 0 rfl) ?_
    refine r_gf X inX5_addLine_X5 hw 7 rfl rfl 5 (by decide) (X.2.2.2.2 (.fieldLink RX5 28 "TestHall$Text" "size" "I") (by decide +kernel)) rfl rfl dX5_addLine_28 ?_
    obtain ⟨hi_, h⟩ := h
    refine r_ias (w' := cw κ η n (sA M_1 14 (gI M_1 17).toNatClampNeg (gI M_1 18))) X hw 23 0 rfl rfl hi_ rfl dX5_addLine_31 (fun H locs hw => ?_)
    obtain ⟨M_2, eM_2⟩ : ∃ y : Sg, y = sA M_1 14 (gI M_1 17).toNatClampNeg (gI M_1 18) := ⟨_, rfl⟩
    rw [← eM_2] at hw
    have h := h M_2 eM_2
    refine lv_aload_n X.1 X.2.1 dX5_addLine_32 rfl (lv_at hl 0 rfl) ?_
    refine lv_dup X.1 X.2.1 dX5_addLine_33 rfl ?_
    refine r_gf X inX5_addLine_X5 hw 7 rfl rfl 4 (by decide) (X.2.2.2.2 (.fieldLink RX5 24 "TestHall$Text" "lines" "I") (by decide +kernel)) rfl rfl dX5_addLine_34 ?_
    refine lv_iconst (v := (1 : Int32)) X.1 X.2.1 dX5_addLine_37 (by decide) ?_
    refine lv_iadd X.1 X.2.1 dX5_addLine_38 ?_
    refine r_pf (ty := .int) (w' := cw κ η n (sI M_2 17 ((gI M_2 17) + (1 : Int32)))) X inX5_addLine_X5 tyX5_ok nmX5 hw 7 rfl rfl 4 (by decide) (X.2.2.2.2 (.fieldLink RX5 24 "TestHall$Text" "lines" "I") (by decide +kernel)) rfl rfl (by decide +kernel) rfl rfl (Nat.le_of_ble_eq_true rfl) rfl dX5_addLine_39 (fun H locs hw => ?_)
    obtain ⟨M_3, eM_3⟩ : ∃ y : Sg, y = sI M_2 17 ((gI M_2 17) + (1 : Int32)) := ⟨_, rfl⟩
    rw [← eM_3] at hw
    have h := h M_3 eM_3
    exact r_vret X hr hlk hw h dX5_addLine_42

abbrev rmX5_joined : Room := { frames := 0, cells := 0, slots := 0, locals := 0 }
def wX5_joined (n : Nat) (M : Sg) (a0 : Int32) (a1 : Int32) (a2 : Int32) (Q : Sg → Int32 → Prop) : Prop := ((a0 = (10006 : Int32) → (Q M (a1 + a2))) ∧ (a0 = (10007 : Int32) → (Q M (a1 - a2))) ∧ (a0 = (10008 : Int32) → ((a2 ≤ a1 → (Q M (0 : Int32))) ∧ (¬ a2 ≤ a1 → (Q M (1 : Int32))))) ∧ (a0 = (10009 : Int32) → ((¬ a1 = a2 → (Q M (0 : Int32))) ∧ (a1 = a2 → (Q M (1 : Int32))))) ∧ ((¬ a0 = (10006 : Int32) ∧ ¬ a0 = (10007 : Int32) ∧ ¬ a0 = (10008 : Int32) ∧ ¬ a0 = (10009 : Int32)) → ((a1 = 0 → (Q M (0 : Int32))) ∧ (¬ a1 = 0 → ((a2 = 0 → (Q M (0 : Int32))) ∧ (¬ a2 = 0 → (Q M (1 : Int32))))))))
set_option maxHeartbeats 4000000 in
set_option maxRecDepth 100000 in
theorem kX5_joined {l : Launch} {D : va_G} {κ : Nat → ClassId} {η : Nat → Nat} {σ : (Nat → Nat) × (Nat → Nat)} {n : Nat} {M : Sg} {a0 : Int32} {a1 : Int32} {a2 : Int32} {Q : Sg → Int32 → Prop} (h : wX5_joined n M a0 a1 a2 Q) : Ki (cN σ) D (Ky κ) (cw κ η n) l yX5_joined wsX5_joined rmX5_joined [.int a0, .int a1, .int a2] M Q := by
  refine ofW_g (Qc := fun A => Qi D (Ky κ) (cw κ η n) A Q) (cc := cX5_joined) (maxL := 3) (ret := (some .int)) (by decide) rfl (Nat.le_of_ble_eq_true rfl) ?_
  intro p e s m args below meth c A ls X hr hlk hw hl
  have hl : lv_has ls 3 [(0, .int a0), (1, .int a1), (2, .int a2)] := hl
  refine lv_iload_n X.1 X.2.1 dX5_joined_0 rfl (lv_at hl 0 rfl) ?_
  obtain ⟨hs0_, hs1_, hs2_, hs3_, hd_⟩ := h
  by_cases cs0_ : a0 = (10006 : Int32)
  · have h := hs0_ cs0_
    refine lv_tableIn (tgt := 32) (off := (31)) X.1 X.2.1 dX5_joined_1 (by rw [cs0_]; decide) (by rw [cs0_]; decide) (by rw [cs0_]; decide) (by decide) ?_
    refine lv_iload_n X.1 X.2.1 dX5_joined_32 rfl (lv_at hl 1 rfl) ?_
    refine lv_iload_n X.1 X.2.1 dX5_joined_33 rfl (lv_at hl 2 rfl) ?_
    refine lv_iadd X.1 X.2.1 dX5_joined_34 ?_
    exact r_ret X hr hlk hw h dX5_joined_35
  by_cases cs1_ : a0 = (10007 : Int32)
  · have h := hs1_ cs1_
    refine lv_tableIn (tgt := 36) (off := (35)) X.1 X.2.1 dX5_joined_1 (by rw [cs1_]; decide) (by rw [cs1_]; decide) (by rw [cs1_]; decide) (by decide) ?_
    refine lv_iload_n X.1 X.2.1 dX5_joined_36 rfl (lv_at hl 1 rfl) ?_
    refine lv_iload_n X.1 X.2.1 dX5_joined_37 rfl (lv_at hl 2 rfl) ?_
    refine lv_isub X.1 X.2.1 dX5_joined_38 ?_
    exact r_ret X hr hlk hw h dX5_joined_39
  by_cases cs2_ : a0 = (10008 : Int32)
  · have h := hs2_ cs2_
    refine lv_tableIn (tgt := 40) (off := (39)) X.1 X.2.1 dX5_joined_1 (by rw [cs2_]; decide) (by rw [cs2_]; decide) (by rw [cs2_]; decide) (by decide) ?_
    refine lv_iload_n X.1 X.2.1 dX5_joined_40 rfl (lv_at hl 1 rfl) ?_
    refine lv_iload_n X.1 X.2.1 dX5_joined_41 rfl (lv_at hl 2 rfl) ?_
    obtain ⟨ht_, hf_⟩ := h
    refine lv_icmp_ge (tgt := 49) X.1 X.2.1 dX5_joined_42 (by decide) (fun c_ => ?_) (fun c_ => ?_)
    · have h := ht_ c_
      refine lv_iconst (v := (0 : Int32)) X.1 X.2.1 dX5_joined_49 (by decide) ?_
      exact r_ret X hr hlk hw h dX5_joined_50
    · have h := hf_ c_
      refine lv_iconst (v := (1 : Int32)) X.1 X.2.1 dX5_joined_45 (by decide) ?_
      refine lv_goto (tgt := 50) X.1 X.2.1 dX5_joined_46 (by decide) ?_
      exact r_ret X hr hlk hw h dX5_joined_50
  by_cases cs3_ : a0 = (10009 : Int32)
  · have h := hs3_ cs3_
    refine lv_tableIn (tgt := 51) (off := (50)) X.1 X.2.1 dX5_joined_1 (by rw [cs3_]; decide) (by rw [cs3_]; decide) (by rw [cs3_]; decide) (by decide) ?_
    refine lv_iload_n X.1 X.2.1 dX5_joined_51 rfl (lv_at hl 1 rfl) ?_
    refine lv_iload_n X.1 X.2.1 dX5_joined_52 rfl (lv_at hl 2 rfl) ?_
    obtain ⟨ht_, hf_⟩ := h
    refine lv_icmp_ne (tgt := 60) X.1 X.2.1 dX5_joined_53 (by decide) (fun c_ => ?_) (fun c_ => ?_)
    · have h := ht_ c_
      refine lv_iconst (v := (0 : Int32)) X.1 X.2.1 dX5_joined_60 (by decide) ?_
      exact r_ret X hr hlk hw h dX5_joined_61
    · have h := hf_ c_
      refine lv_iconst (v := (1 : Int32)) X.1 X.2.1 dX5_joined_56 (by decide) ?_
      refine lv_goto (tgt := 61) X.1 X.2.1 dX5_joined_57 (by decide) ?_
      exact r_ret X hr hlk hw h dX5_joined_61
  have h := hd_ ⟨cs0_, cs1_, cs2_, cs3_⟩
  have cn0_ : ¬ (a0).toInt = 10006 := fun q => cs0_ (Int32.toInt_inj.mp (q.trans (by decide)))
  have cn1_ : ¬ (a0).toInt = 10007 := fun q => cs1_ (Int32.toInt_inj.mp (q.trans (by decide)))
  have cn2_ : ¬ (a0).toInt = 10008 := fun q => cs2_ (Int32.toInt_inj.mp (q.trans (by decide)))
  have cn3_ : ¬ (a0).toInt = 10009 := fun q => cs3_ (Int32.toInt_inj.mp (q.trans (by decide)))
  refine lv_tableOut (tgt := 62) X.1 X.2.1 dX5_joined_1 (by omega) (by decide) ?_
  refine lv_iload_n X.1 X.2.1 dX5_joined_62 rfl (lv_at hl 1 rfl) ?_
  obtain ⟨ht_, hf_⟩ := h
  refine lv_if_eq (tgt := 74) X.1 X.2.1 dX5_joined_63 (by decide) (fun c_ => ?_) (fun c_ => ?_)
  · have h := ht_ c_
    refine lv_iconst (v := (0 : Int32)) X.1 X.2.1 dX5_joined_74 (by decide) ?_
    exact r_ret X hr hlk hw h dX5_joined_75
  · have h := hf_ c_
    refine lv_iload_n X.1 X.2.1 dX5_joined_66 rfl (lv_at hl 2 rfl) ?_
    obtain ⟨ht_, hf_⟩ := h
    refine lv_if_eq (tgt := 74) X.1 X.2.1 dX5_joined_67 (by decide) (fun c_ => ?_) (fun c_ => ?_)
    · have h := ht_ c_
      refine lv_iconst (v := (0 : Int32)) X.1 X.2.1 dX5_joined_74 (by decide) ?_
      exact r_ret X hr hlk hw h dX5_joined_75
    · have h := hf_ c_
      refine lv_iconst (v := (1 : Int32)) X.1 X.2.1 dX5_joined_70 (by decide) ?_
      refine lv_goto (tgt := 75) X.1 X.2.1 dX5_joined_71 (by decide) ?_
      exact r_ret X hr hlk hw h dX5_joined_75

theorem inX5_valueOf_X5 : ∀ w ∈ wsX50, w ∈ wsX5_valueOf := fun w h => List.mem_cons_of_mem _ (List.mem_append_right _ h)
abbrev rmX5_valueOf : Room := { frames := 1, cells := 0, slots := 0, locals := 22 }
def vX5_valueOf_117 (n : Nat) (K6 : Sg → Int32 → Int32 → Int32 → Prop) (Q : Sg → Int32 → Prop) (M : Sg) (x2 : Int32) (x4 : Int32) (x5 : Int32) : Prop := (∀ (x_1 : Int32), x_1 = x5 + (1 : Int32) → (K6 M x2 x4 x_1))
set_option maxHeartbeats 4000000 in
set_option maxRecDepth 100000 in
theorem bX5_valueOf_117 {p : Program} {l : Launch} {e : Env} {s : State} {m : MethodId} {args : Array Value} {below : List Frame} {meth : Method} {c : Code} {D : va_G} {κ : Nat → ClassId} {η : Nat → Nat} {σ : (Nat → Nat) × (Nat → Nat)} {A : Nat → Prop} {n : Nat} {Q : Sg → Int32 → Prop} {K6 : Sg → Int32 → Int32 → Int32 → Prop} (X : CallFix p m c cX5_valueOf 7 s args wsX5_valueOf RX5) (hr : meth.sig.returnType = (some .int)) (hlk : meth.locks = false) (hK6 : ∀ (M : Sg) (x2 : Int32) (x4 : Int32) (x5 : Int32) (H : Heap) (locs : List Loc) (ls : Array Slot), K6 M x2 x4 x5 → Wd (cN σ) D (Ky κ) A s (cw κ η n M) H locs → lv_has ls 7 [(0, .ref (η 6)), (2, .int x2), (3, .ref (η 16)), (4, .int x4), (5, .int x5)] → W p l e rmX5_valueOf s m args below meth c H locs 0 0 (MQ below (Qi D (Ky κ) (cw κ η n) A Q) args s 0 0 A) (F0 m 6 ls [])) : ∀ (M : Sg) (x2 : Int32) (x4 : Int32) (x5 : Int32) (H : Heap) (locs : List Loc) (ls : Array Slot), vX5_valueOf_117 n K6 Q M x2 x4 x5 → Wd (cN σ) D (Ky κ) A s (cw κ η n M) H locs → lv_has ls 7 [(0, .ref (η 6)), (2, .int x2), (3, .ref (η 16)), (4, .int x4), (5, .int x5)] → W p l e rmX5_valueOf s m args below meth c H locs 0 0 (MQ below (Qi D (Ky κ) (cw κ η n) A Q) args s 0 0 A) (F0 m 117 ls []) := by
  intro M x2 x4 x5 H locs ls h hw hl
  obtain ⟨x_1, ex_1⟩ : ∃ y : Int32, y = x5 + (1 : Int32) := ⟨_, rfl⟩
  have h := h x_1 ex_1
  refine lv_iinc (v := x_1) (lv' := [(5, .int x_1), (0, .ref (η 6)), (2, .int x2), (3, .ref (η 16)), (4, .int x4)]) X.1 X.2.1 dX5_valueOf_117 hl (k := 4) rfl (by rw [ex_1]; rfl) (by decide) rfl (fun ls hl => ?_)
  refine lv_goto (tgt := 6) X.1 X.2.1 dX5_valueOf_120 (by decide) ?_
  exact hK6 M x2 x4 x_1 _ _ _ h hw (lv_sub hl [1, 2, 3, 4, 0] rfl)
def vX5_valueOf_113 (n : Nat) (K6 : Sg → Int32 → Int32 → Int32 → Prop) (Q : Sg → Int32 → Prop) (M : Sg) (x2 : Int32) (x4 : Int32) (x5 : Int32) (s0 : Int32) (s1 : Int32) : Prop := (vp_in s1 16 ∧ (∀ (M_1 : Sg), M_1 = sA M 12 s1.toNatClampNeg s0 → (∀ (x_2 : Int32), x_2 = x4 + (1 : Int32) → (vX5_valueOf_117 n K6 Q M_1 x2 x_2 x5))))
set_option maxHeartbeats 4000000 in
set_option maxRecDepth 100000 in
theorem bX5_valueOf_113 {p : Program} {l : Launch} {e : Env} {s : State} {m : MethodId} {args : Array Value} {below : List Frame} {meth : Method} {c : Code} {D : va_G} {κ : Nat → ClassId} {η : Nat → Nat} {σ : (Nat → Nat) × (Nat → Nat)} {A : Nat → Prop} {n : Nat} {Q : Sg → Int32 → Prop} {K6 : Sg → Int32 → Int32 → Int32 → Prop} (X : CallFix p m c cX5_valueOf 7 s args wsX5_valueOf RX5) (hr : meth.sig.returnType = (some .int)) (hlk : meth.locks = false) (hK6 : ∀ (M : Sg) (x2 : Int32) (x4 : Int32) (x5 : Int32) (H : Heap) (locs : List Loc) (ls : Array Slot), K6 M x2 x4 x5 → Wd (cN σ) D (Ky κ) A s (cw κ η n M) H locs → lv_has ls 7 [(0, .ref (η 6)), (2, .int x2), (3, .ref (η 16)), (4, .int x4), (5, .int x5)] → W p l e rmX5_valueOf s m args below meth c H locs 0 0 (MQ below (Qi D (Ky κ) (cw κ η n) A Q) args s 0 0 A) (F0 m 6 ls [])) : ∀ (M : Sg) (x2 : Int32) (x4 : Int32) (x5 : Int32) (s0 : Int32) (s1 : Int32) (H : Heap) (locs : List Loc) (ls : Array Slot), vX5_valueOf_113 n K6 Q M x2 x4 x5 s0 s1 → Wd (cN σ) D (Ky κ) A s (cw κ η n M) H locs → lv_has ls 7 [(0, .ref (η 6)), (2, .int x2), (3, .ref (η 16)), (4, .int x4), (5, .int x5)] → W p l e rmX5_valueOf s m args below meth c H locs 0 0 (MQ below (Qi D (Ky κ) (cw κ η n) A Q) args s 0 0 A) (F0 m 113 ls [.int s0, .int s1, .ref (η 21)]) := by
  intro M x2 x4 x5 s0 s1 H locs ls h hw hl
  obtain ⟨hi_, h⟩ := h
  refine r_ias (w' := cw κ η n (sA M 12 s1.toNatClampNeg s0)) X hw 21 0 rfl rfl hi_ rfl dX5_valueOf_113 (fun H locs hw => ?_)
  obtain ⟨M_1, eM_1⟩ : ∃ y : Sg, y = sA M 12 s1.toNatClampNeg s0 := ⟨_, rfl⟩
  rw [← eM_1] at hw
  have h := h M_1 eM_1
  obtain ⟨x_2, ex_2⟩ : ∃ y : Int32, y = x4 + (1 : Int32) := ⟨_, rfl⟩
  have h := h x_2 ex_2
  refine lv_iinc (v := x_2) (lv' := [(4, .int x_2), (0, .ref (η 6)), (2, .int x2), (3, .ref (η 16)), (5, .int x5)]) X.1 X.2.1 dX5_valueOf_114 hl (k := 3) rfl (by rw [ex_2]; rfl) (by decide) rfl (fun ls hl => ?_)
  exact bX5_valueOf_117 X hr hlk hK6 M_1 x2 x_2 x5 _ _ _ h hw (lv_sub hl [1, 2, 3, 0, 4] rfl)
def vX5_valueOf_71 (n : Nat) (K6 : Sg → Int32 → Int32 → Int32 → Prop) (Q : Sg → Int32 → Prop) (M : Sg) (x2 : Int32) (x4 : Int32) (x5 : Int32) (x6 : Int32) : Prop := (((10005 : Int32) < x6 → (vX5_valueOf_117 n K6 Q M x2 x4 x5)) ∧ (¬ (10005 : Int32) < x6 → (((16 : Int32) ≤ x4 → (vX5_valueOf_117 n K6 Q M x2 x4 x5)) ∧ (¬ (16 : Int32) ≤ x4 → (((9999 : Int32) < x6 → (vp_in (x6 - (10000 : Int32)) 6 ∧ (vX5_valueOf_113 n K6 Q M x2 x4 x5 (gA M 7 (x6 - (10000 : Int32)).toNatClampNeg) x4))) ∧ (¬ (9999 : Int32) < x6 → (vX5_valueOf_113 n K6 Q M x2 x4 x5 x6 x4)))))))
set_option maxHeartbeats 4000000 in
set_option maxRecDepth 100000 in
theorem bX5_valueOf_71 {p : Program} {l : Launch} {e : Env} {s : State} {m : MethodId} {args : Array Value} {below : List Frame} {meth : Method} {c : Code} {D : va_G} {κ : Nat → ClassId} {η : Nat → Nat} {σ : (Nat → Nat) × (Nat → Nat)} {A : Nat → Prop} {n : Nat} {Q : Sg → Int32 → Prop} {K6 : Sg → Int32 → Int32 → Int32 → Prop} (X : CallFix p m c cX5_valueOf 7 s args wsX5_valueOf RX5) (hr : meth.sig.returnType = (some .int)) (hlk : meth.locks = false) (hK6 : ∀ (M : Sg) (x2 : Int32) (x4 : Int32) (x5 : Int32) (H : Heap) (locs : List Loc) (ls : Array Slot), K6 M x2 x4 x5 → Wd (cN σ) D (Ky κ) A s (cw κ η n M) H locs → lv_has ls 7 [(0, .ref (η 6)), (2, .int x2), (3, .ref (η 16)), (4, .int x4), (5, .int x5)] → W p l e rmX5_valueOf s m args below meth c H locs 0 0 (MQ below (Qi D (Ky κ) (cw κ η n) A Q) args s 0 0 A) (F0 m 6 ls [])) : ∀ (M : Sg) (x2 : Int32) (x4 : Int32) (x5 : Int32) (x6 : Int32) (H : Heap) (locs : List Loc) (ls : Array Slot), vX5_valueOf_71 n K6 Q M x2 x4 x5 x6 → Wd (cN σ) D (Ky κ) A s (cw κ η n M) H locs → lv_has ls 7 [(0, .ref (η 6)), (2, .int x2), (3, .ref (η 16)), (4, .int x4), (5, .int x5), (6, .int x6)] → W p l e rmX5_valueOf s m args below meth c H locs 0 0 (MQ below (Qi D (Ky κ) (cw κ η n) A Q) args s 0 0 A) (F0 m 71 ls []) := by
  intro M x2 x4 x5 x6 H locs ls h hw hl
  refine lv_iload X.1 X.2.1 dX5_valueOf_71 (lv_at hl 5 rfl) ?_
  refine lv_sipush (v := (10005 : Int32)) X.1 X.2.1 dX5_valueOf_73 (by decide) ?_
  obtain ⟨ht_, hf_⟩ := h
  refine lv_icmp_gt (tgt := 117) X.1 X.2.1 dX5_valueOf_76 (by decide) (fun c_ => ?_) (fun c_ => ?_)
  · have h := ht_ c_
    exact bX5_valueOf_117 X hr hlk hK6 M x2 x4 x5 _ _ _ h hw (lv_sub hl [0, 1, 2, 3, 4] rfl)
  · have h := hf_ c_
    refine lv_iload X.1 X.2.1 dX5_valueOf_79 (lv_at hl 3 rfl) ?_
    refine lv_bipush (v := (16 : Int32)) X.1 X.2.1 dX5_valueOf_81 (by decide) ?_
    obtain ⟨ht_, hf_⟩ := h
    refine lv_icmp_ge (tgt := 117) X.1 X.2.1 dX5_valueOf_83 (by decide) (fun c_ => ?_) (fun c_ => ?_)
    · have h := ht_ c_
      exact bX5_valueOf_117 X hr hlk hK6 M x2 x4 x5 _ _ _ h hw (lv_sub hl [0, 1, 2, 3, 4] rfl)
    · have h := hf_ c_
      refine lv_aload_n X.1 X.2.1 dX5_valueOf_86 rfl (lv_at hl 0 rfl) ?_
      refine r_gf X inX5_valueOf_X5 hw 6 rfl rfl 3 (by decide) (X.2.2.2.2 (.fieldLink RX5 21 "TestHall$Text" "stack" "[I") (by decide +kernel)) rfl rfl dX5_valueOf_87 ?_
      refine lv_iload X.1 X.2.1 dX5_valueOf_90 (lv_at hl 3 rfl) ?_
      refine lv_iload X.1 X.2.1 dX5_valueOf_92 (lv_at hl 5 rfl) ?_
      refine lv_sipush (v := (9999 : Int32)) X.1 X.2.1 dX5_valueOf_94 (by decide) ?_
      obtain ⟨ht_, hf_⟩ := h
      refine lv_icmp_gt (tgt := 105) X.1 X.2.1 dX5_valueOf_97 (by decide) (fun c_ => ?_) (fun c_ => ?_)
      · have h := ht_ c_
        refine lv_aload_n X.1 X.2.1 dX5_valueOf_105 rfl (lv_at hl 2 rfl) ?_
        refine lv_iload X.1 X.2.1 dX5_valueOf_106 (lv_at hl 5 rfl) ?_
        refine lv_sipush (v := (10000 : Int32)) X.1 X.2.1 dX5_valueOf_108 (by decide) ?_
        refine lv_isub X.1 X.2.1 dX5_valueOf_111 ?_
        obtain ⟨hi_, h⟩ := h
        refine r_ial X hw 16 0 rfl rfl hi_ dX5_valueOf_112 ?_
        exact bX5_valueOf_113 X hr hlk hK6 M x2 x4 x5 (gA M 7 (x6 - (10000 : Int32)).toNatClampNeg) x4 _ _ _ h hw (lv_sub hl [0, 1, 2, 3, 4] rfl)
      · have h := hf_ c_
        refine lv_iload X.1 X.2.1 dX5_valueOf_100 (lv_at hl 5 rfl) ?_
        refine lv_goto (tgt := 113) X.1 X.2.1 dX5_valueOf_102 (by decide) ?_
        exact bX5_valueOf_113 X hr hlk hK6 M x2 x4 x5 x6 x4 _ _ _ h hw (lv_sub hl [0, 1, 2, 3, 4] rfl)
def vX5_valueOf_6 (n : Nat) (Q : Sg → Int32 → Prop) : Nat → Sg → Int32 → Int32 → Int32 → Prop
  | 0, _, _, _, _ => False
  | f6_ + 1, M, x2, x4, x5 => ((x2 ≤ x5 → (vp_in (0 : Int32) 16 ∧ (Q M (gA M 12 (0 : Int32).toNatClampNeg)))) ∧ (¬ x2 ≤ x5 → (vp_in x5 600 ∧ (∀ (x_1 : Int32), x_1 = (gA M 11 x5.toNatClampNeg) → ((x_1 ≤ (10005 : Int32) → (vX5_valueOf_71 n (vX5_valueOf_6 n Q f6_) Q M x2 x4 x5 x_1)) ∧ (¬ x_1 ≤ (10005 : Int32) → ((x4 < (2 : Int32) → (vX5_valueOf_71 n (vX5_valueOf_6 n Q f6_) Q M x2 x4 x5 x_1)) ∧ (¬ x4 < (2 : Int32) → (∀ (x_2 : Int32), x_2 = x4 + (-1 : Int32) → (vp_in (x_2 - (1 : Int32)) 16 ∧ (vp_in x_2 16 ∧ (wX5_joined n M x_1 (gA M 12 (x_2 - (1 : Int32)).toNatClampNeg) (gA M 12 x_2.toNatClampNeg) (fun M_3 r_4 => (vp_in (x_2 - (1 : Int32)) 16 ∧ (∀ (M_5 : Sg), M_5 = sA M_3 12 (x_2 - (1 : Int32)).toNatClampNeg r_4 → (vX5_valueOf_117 n (vX5_valueOf_6 n Q f6_) Q M_5 x2 x_2 x5))))))))))))))))
set_option maxHeartbeats 4000000 in
set_option maxRecDepth 100000 in
theorem bX5_valueOf_6 {p : Program} {l : Launch} {e : Env} {s : State} {m : MethodId} {args : Array Value} {below : List Frame} {meth : Method} {c : Code} {D : va_G} {κ : Nat → ClassId} {η : Nat → Nat} {σ : (Nat → Nat) × (Nat → Nat)} {A : Nat → Prop} {n : Nat} {Q : Sg → Int32 → Prop} (X : CallFix p m c cX5_valueOf 7 s args wsX5_valueOf RX5) (hr : meth.sig.returnType = (some .int)) (hlk : meth.locks = false) : ∀ (f_ : Nat) (M : Sg) (x2 : Int32) (x4 : Int32) (x5 : Int32) (H : Heap) (locs : List Loc) (ls : Array Slot), vX5_valueOf_6 n Q f_ M x2 x4 x5 → Wd (cN σ) D (Ky κ) A s (cw κ η n M) H locs → lv_has ls 7 [(0, .ref (η 6)), (2, .int x2), (3, .ref (η 16)), (4, .int x4), (5, .int x5)] → W p l e rmX5_valueOf s m args below meth c H locs 0 0 (MQ below (Qi D (Ky κ) (cw κ η n) A Q) args s 0 0 A) (F0 m 6 ls []) := by
  intro f_
  induction f_ with
  | zero => intro M x2 x4 x5 H locs ls h; exact h.elim
  | succ f_ hK6 =>
    intro M x2 x4 x5 H locs ls h hw hl
    refine lv_iload X.1 X.2.1 dX5_valueOf_6 (lv_at hl 4 rfl) ?_
    refine lv_iload_n X.1 X.2.1 dX5_valueOf_8 rfl (lv_at hl 1 rfl) ?_
    obtain ⟨ht_, hf_⟩ := h
    refine lv_icmp_ge (tgt := 123) X.1 X.2.1 dX5_valueOf_9 (by decide) (fun c_ => ?_) (fun c_ => ?_)
    · have h := ht_ c_
      refine lv_aload_n X.1 X.2.1 dX5_valueOf_123 rfl (lv_at hl 0 rfl) ?_
      refine r_gf X inX5_valueOf_X5 hw 6 rfl rfl 3 (by decide) (X.2.2.2.2 (.fieldLink RX5 21 "TestHall$Text" "stack" "[I") (by decide +kernel)) rfl rfl dX5_valueOf_124 ?_
      refine lv_iconst (v := (0 : Int32)) X.1 X.2.1 dX5_valueOf_127 (by decide) ?_
      obtain ⟨hi_, h⟩ := h
      refine r_ial X hw 21 0 rfl rfl hi_ dX5_valueOf_128 ?_
      exact r_ret X hr hlk hw h dX5_valueOf_129
    · have h := hf_ c_
      refine lv_aload_n X.1 X.2.1 dX5_valueOf_12 rfl (lv_at hl 0 rfl) ?_
      refine r_gf X inX5_valueOf_X5 hw 6 rfl rfl 2 (by decide) (X.2.2.2.2 (.fieldLink RX5 18 "TestHall$Text" "codes" "[I") (by decide +kernel)) rfl rfl dX5_valueOf_13 ?_
      refine lv_iload X.1 X.2.1 dX5_valueOf_16 (lv_at hl 4 rfl) ?_
      obtain ⟨hi_, h⟩ := h
      refine r_ial X hw 20 0 rfl rfl hi_ dX5_valueOf_18 ?_
      refine lv_topi (fun x_1 ex_1 => ?_)
      have h := h x_1 ex_1
      refine lv_istore (lv' := [(6, .int x_1), (0, .ref (η 6)), (2, .int x2), (3, .ref (η 16)), (4, .int x4), (5, .int x5)]) X.1 X.2.1 dX5_valueOf_19 hl (by decide) rfl (fun ls hl => ?_)
      refine lv_iload X.1 X.2.1 dX5_valueOf_21 (lv_at hl 0 rfl) ?_
      refine lv_sipush (v := (10005 : Int32)) X.1 X.2.1 dX5_valueOf_23 (by decide) ?_
      obtain ⟨ht_, hf_⟩ := h
      refine lv_icmp_le (tgt := 71) X.1 X.2.1 dX5_valueOf_26 (by decide) (fun c_ => ?_) (fun c_ => ?_)
      · have h := ht_ c_
        exact bX5_valueOf_71 X hr hlk hK6 M x2 x4 x5 x_1 _ _ _ h hw (lv_sub hl [1, 2, 3, 4, 5, 0] rfl)
      · have h := hf_ c_
        refine lv_iload X.1 X.2.1 dX5_valueOf_29 (lv_at hl 4 rfl) ?_
        refine lv_iconst (v := (2 : Int32)) X.1 X.2.1 dX5_valueOf_31 (by decide) ?_
        obtain ⟨ht_, hf_⟩ := h
        refine lv_icmp_lt (tgt := 71) X.1 X.2.1 dX5_valueOf_32 (by decide) (fun c_ => ?_) (fun c_ => ?_)
        · have h := ht_ c_
          exact bX5_valueOf_71 X hr hlk hK6 M x2 x4 x5 x_1 _ _ _ h hw (lv_sub hl [1, 2, 3, 4, 5, 0] rfl)
        · have h := hf_ c_
          obtain ⟨x_2, ex_2⟩ : ∃ y : Int32, y = x4 + (-1 : Int32) := ⟨_, rfl⟩
          have h := h x_2 ex_2
          refine lv_iinc (v := x_2) (lv' := [(4, .int x_2), (6, .int x_1), (0, .ref (η 6)), (2, .int x2), (3, .ref (η 16)), (5, .int x5)]) X.1 X.2.1 dX5_valueOf_35 hl (k := 4) rfl (by rw [ex_2]; rfl) (by decide) rfl (fun ls hl => ?_)
          refine lv_aload_n X.1 X.2.1 dX5_valueOf_38 rfl (lv_at hl 2 rfl) ?_
          refine r_gf X inX5_valueOf_X5 hw 6 rfl rfl 3 (by decide) (X.2.2.2.2 (.fieldLink RX5 21 "TestHall$Text" "stack" "[I") (by decide +kernel)) rfl rfl dX5_valueOf_39 ?_
          refine lv_iload X.1 X.2.1 dX5_valueOf_42 (lv_at hl 0 rfl) ?_
          refine lv_iconst (v := (1 : Int32)) X.1 X.2.1 dX5_valueOf_44 (by decide) ?_
          refine lv_isub X.1 X.2.1 dX5_valueOf_45 ?_
          refine lv_iload X.1 X.2.1 dX5_valueOf_46 (lv_at hl 1 rfl) ?_
          refine lv_aload_n X.1 X.2.1 dX5_valueOf_48 rfl (lv_at hl 2 rfl) ?_
          refine r_gf X inX5_valueOf_X5 hw 6 rfl rfl 3 (by decide) (X.2.2.2.2 (.fieldLink RX5 21 "TestHall$Text" "stack" "[I") (by decide +kernel)) rfl rfl dX5_valueOf_49 ?_
          refine lv_iload X.1 X.2.1 dX5_valueOf_52 (lv_at hl 0 rfl) ?_
          refine lv_iconst (v := (1 : Int32)) X.1 X.2.1 dX5_valueOf_54 (by decide) ?_
          refine lv_isub X.1 X.2.1 dX5_valueOf_55 ?_
          obtain ⟨hi_, h⟩ := h
          refine r_ial X hw 21 0 rfl rfl hi_ dX5_valueOf_56 ?_
          refine lv_aload_n X.1 X.2.1 dX5_valueOf_57 rfl (lv_at hl 2 rfl) ?_
          refine r_gf X inX5_valueOf_X5 hw 6 rfl rfl 3 (by decide) (X.2.2.2.2 (.fieldLink RX5 21 "TestHall$Text" "stack" "[I") (by decide +kernel)) rfl rfl dX5_valueOf_58 ?_
          refine lv_iload X.1 X.2.1 dX5_valueOf_61 (lv_at hl 0 rfl) ?_
          obtain ⟨hi_, h⟩ := h
          refine r_ial X hw 21 0 rfl rfl hi_ dX5_valueOf_63 ?_
          refine r_Si (As := [.int x_1, .int (gA M 12 (x_2 - (1 : Int32)).toNatClampNeg), .int (gA M 12 x_2.toNatClampNeg)]) (rest := [.int (x_2 - (1 : Int32)), .ref (η 21)]) X cN_ok (kX5_joined h) (va_cwS 3 X.2.2.2.2 gX5_valueOf_X5_joined rfl rfl rfl (by decide +kernel) ⟨Nat.le_of_ble_eq_true rfl, Nat.le_of_ble_eq_true rfl⟩) hw rfl hl.1 rfl (Nat.le_of_ble_eq_true rfl) dX5_valueOf_64 (fun r_4 M_3 H locs h hw => ?_)
          obtain ⟨hi_, h⟩ := h
          refine r_ias (w' := cw κ η n (sA M_3 12 (x_2 - (1 : Int32)).toNatClampNeg r_4)) X hw 21 0 rfl rfl hi_ rfl dX5_valueOf_67 (fun H locs hw => ?_)
          obtain ⟨M_5, eM_5⟩ : ∃ y : Sg, y = sA M_3 12 (x_2 - (1 : Int32)).toNatClampNeg r_4 := ⟨_, rfl⟩
          rw [← eM_5] at hw
          have h := h M_5 eM_5
          refine lv_goto (tgt := 117) X.1 X.2.1 dX5_valueOf_68 (by decide) ?_
          exact bX5_valueOf_117 X hr hlk hK6 M_5 x2 x_2 x5 _ _ _ h hw (lv_sub hl [2, 3, 4, 0, 5] rfl)
def wX5_valueOf (n : Nat) (M : Sg) (a1 : Int32) (a2 : Int32) (Q : Sg → Int32 → Prop) : Prop := (∃ g6_ : Nat, vX5_valueOf_6 n Q g6_ M a2 (0 : Int32) a1)
set_option maxHeartbeats 4000000 in
set_option maxRecDepth 100000 in
theorem kX5_valueOf {l : Launch} {D : va_G} {κ : Nat → ClassId} {η : Nat → Nat} {σ : (Nat → Nat) × (Nat → Nat)} {n : Nat} {M : Sg} {a1 : Int32} {a2 : Int32} {Q : Sg → Int32 → Prop} (h : wX5_valueOf n M a1 a2 Q) : Ki (cN σ) D (Ky κ) (cw κ η n) l yX5_valueOf wsX5_valueOf rmX5_valueOf [.ref (η 6), .int a1, .int a2, .ref (η 16)] M Q := by
  refine ofW_g (Qc := fun A => Qi D (Ky κ) (cw κ η n) A Q) (cc := cX5_valueOf) (maxL := 7) (ret := (some .int)) (by decide) rfl (Nat.le_of_ble_eq_true rfl) ?_
  intro p e s m args below meth c A ls X hr hlk hw hl
  have hl : lv_has ls 7 [(0, .ref (η 6)), (1, .int a1), (2, .int a2), (3, .ref (η 16))] := hl
  refine lv_iconst (v := (0 : Int32)) X.1 X.2.1 dX5_valueOf_0 (by decide) ?_
  refine lv_istore (lv' := [(4, .int (0 : Int32)), (0, .ref (η 6)), (1, .int a1), (2, .int a2), (3, .ref (η 16))]) X.1 X.2.1 dX5_valueOf_1 hl (by decide) rfl (fun ls hl => ?_)
  refine lv_iload_n X.1 X.2.1 dX5_valueOf_3 rfl (lv_at hl 2 rfl) ?_
  refine lv_istore (lv' := [(5, .int a1), (4, .int (0 : Int32)), (0, .ref (η 6)), (1, .int a1), (2, .int a2), (3, .ref (η 16))]) X.1 X.2.1 dX5_valueOf_4 hl (by decide) rfl (fun ls hl => ?_)
  obtain ⟨f_, h⟩ := h
  exact bX5_valueOf_6 X hr hlk f_ M a2 (0 : Int32) a1 _ _ _ h hw (lv_sub hl [2, 4, 5, 1, 0] rfl)

theorem inX5_rankBy_X5 : ∀ w ∈ wsX50, w ∈ wsX5_rankBy := fun w h => List.mem_cons_of_mem _ (List.mem_append_right _ h)
abbrev rmX5_rankBy : Room := { frames := 2, cells := 0, slots := 0, locals := 48 }
def vX5_rankBy_4 (n : Nat) (Q : Sg → Int32 → Prop) : Nat → Sg → Int32 → Int32 → Prop
  | 0, _, _, _ => False
  | f4_ + 1, M, x2, x3 => (((gI M 15) ≤ x3 → (Q M (0 : Int32))) ∧ (¬ (gI M 15) ≤ x3 → (vp_in x3 16 ∧ (wX5_valueOf n M x2 (gA M 10 x3.toNatClampNeg) (fun M_1 r_2 => ((r_2 = 0 → (vp_in x3 16 ∧ (∀ (x_3 : Int32), x_3 = (gA M_1 10 x3.toNatClampNeg) → (∀ (x_4 : Int32), x_4 = x3 + (1 : Int32) → (vX5_rankBy_4 n Q f4_ M_1 x_3 x_4))))) ∧ (¬ r_2 = 0 → (vp_in x3 16 ∧ (Q M_1 (gA M_1 9 x3.toNatClampNeg))))))))))
set_option maxHeartbeats 4000000 in
set_option maxRecDepth 100000 in
theorem bX5_rankBy_4 {p : Program} {l : Launch} {e : Env} {s : State} {m : MethodId} {args : Array Value} {below : List Frame} {meth : Method} {c : Code} {D : va_G} {κ : Nat → ClassId} {η : Nat → Nat} {σ : (Nat → Nat) × (Nat → Nat)} {A : Nat → Prop} {n : Nat} {Q : Sg → Int32 → Prop} (X : CallFix p m c cX5_rankBy 4 s args wsX5_rankBy RX5) (hr : meth.sig.returnType = (some .int)) (hlk : meth.locks = false) : ∀ (f_ : Nat) (M : Sg) (x2 : Int32) (x3 : Int32) (H : Heap) (locs : List Loc) (ls : Array Slot), vX5_rankBy_4 n Q f_ M x2 x3 → Wd (cN σ) D (Ky κ) A s (cw κ η n M) H locs → lv_has ls 4 [(0, .ref (η 6)), (1, .ref (η 16)), (2, .int x2), (3, .int x3)] → W p l e rmX5_rankBy s m args below meth c H locs 0 0 (MQ below (Qi D (Ky κ) (cw κ η n) A Q) args s 0 0 A) (F0 m 4 ls []) := by
  intro f_
  induction f_ with
  | zero => intro M x2 x3 H locs ls h; exact h.elim
  | succ f_ hK4 =>
    intro M x2 x3 H locs ls h hw hl
    refine lv_iload_n X.1 X.2.1 dX5_rankBy_4 rfl (lv_at hl 3 rfl) ?_
    refine lv_aload_n X.1 X.2.1 dX5_rankBy_5 rfl (lv_at hl 0 rfl) ?_
    refine r_gf X inX5_rankBy_X5 hw 6 rfl rfl 4 (by decide) (X.2.2.2.2 (.fieldLink RX5 24 "TestHall$Text" "lines" "I") (by decide +kernel)) rfl rfl dX5_rankBy_6 ?_
    obtain ⟨ht_, hf_⟩ := h
    refine lv_icmp_ge (tgt := 47) X.1 X.2.1 dX5_rankBy_9 (by decide) (fun c_ => ?_) (fun c_ => ?_)
    · have h := ht_ c_
      refine lv_iconst (v := (0 : Int32)) X.1 X.2.1 dX5_rankBy_47 (by decide) ?_
      exact r_ret X hr hlk hw h dX5_rankBy_48
    · have h := hf_ c_
      refine lv_aload_n X.1 X.2.1 dX5_rankBy_12 rfl (lv_at hl 0 rfl) ?_
      refine lv_iload_n X.1 X.2.1 dX5_rankBy_13 rfl (lv_at hl 2 rfl) ?_
      refine lv_aload_n X.1 X.2.1 dX5_rankBy_14 rfl (lv_at hl 0 rfl) ?_
      refine r_gf X inX5_rankBy_X5 hw 6 rfl rfl 1 (by decide) (X.2.2.2.2 (.fieldLink RX5 13 "TestHall$Text" "ends" "[I") (by decide +kernel)) rfl rfl dX5_rankBy_15 ?_
      refine lv_iload_n X.1 X.2.1 dX5_rankBy_18 rfl (lv_at hl 3 rfl) ?_
      obtain ⟨hi_, h⟩ := h
      refine r_ial X hw 19 0 rfl rfl hi_ dX5_rankBy_19 ?_
      refine lv_aload_n X.1 X.2.1 dX5_rankBy_20 rfl (lv_at hl 1 rfl) ?_
      refine r_Vi (As := [.int x2, .int (gA M 10 x3.toNatClampNeg), .ref (η 16)]) (rest := []) X cN_ok (kX5_valueOf h) (cwV 3 X.2.2.2.2 gX5_rankBy_X5_valueOf rfl rfl rfl (by decide +kernel) ⟨Nat.le_of_ble_eq_true rfl, Nat.le_of_ble_eq_true rfl⟩) hw 6 5 rfl rfl rfl hl.1 rfl (Nat.le_of_ble_eq_true rfl) dX5_rankBy_21 (fun r_2 M_1 H locs h hw => ?_)
      obtain ⟨ht_, hf_⟩ := h
      refine lv_if_eq (tgt := 34) X.1 X.2.1 dX5_rankBy_24 (by decide) (fun c_ => ?_) (fun c_ => ?_)
      · have h := ht_ c_
        refine lv_aload_n X.1 X.2.1 dX5_rankBy_34 rfl (lv_at hl 0 rfl) ?_
        refine r_gf X inX5_rankBy_X5 hw 6 rfl rfl 1 (by decide) (X.2.2.2.2 (.fieldLink RX5 13 "TestHall$Text" "ends" "[I") (by decide +kernel)) rfl rfl dX5_rankBy_35 ?_
        refine lv_iload_n X.1 X.2.1 dX5_rankBy_38 rfl (lv_at hl 3 rfl) ?_
        obtain ⟨hi_, h⟩ := h
        refine r_ial X hw 19 0 rfl rfl hi_ dX5_rankBy_39 ?_
        refine lv_topi (fun x_3 ex_3 => ?_)
        have h := h x_3 ex_3
        refine lv_istore_n (lv' := [(2, .int x_3), (0, .ref (η 6)), (1, .ref (η 16)), (3, .int x3)]) X.1 X.2.1 dX5_rankBy_40 rfl hl (by decide) rfl (fun ls hl => ?_)
        obtain ⟨x_4, ex_4⟩ : ∃ y : Int32, y = x3 + (1 : Int32) := ⟨_, rfl⟩
        have h := h x_4 ex_4
        refine lv_iinc (v := x_4) (lv' := [(3, .int x_4), (2, .int x_3), (0, .ref (η 6)), (1, .ref (η 16))]) X.1 X.2.1 dX5_rankBy_41 hl (k := 3) rfl (by rw [ex_4]; rfl) (by decide) rfl (fun ls hl => ?_)
        refine lv_goto (tgt := 4) X.1 X.2.1 dX5_rankBy_44 (by decide) ?_
        exact hK4 M_1 x_3 x_4 _ _ _ h hw (lv_sub hl [2, 3, 1, 0] rfl)
      · have h := hf_ c_
        refine lv_aload_n X.1 X.2.1 dX5_rankBy_27 rfl (lv_at hl 0 rfl) ?_
        refine r_gf X inX5_rankBy_X5 hw 6 rfl rfl 0 (by decide) (X.2.2.2.2 (.fieldLink RX5 9 "TestHall$Text" "firsts" "[I") (by decide +kernel)) rfl rfl dX5_rankBy_28 ?_
        refine lv_iload_n X.1 X.2.1 dX5_rankBy_31 rfl (lv_at hl 3 rfl) ?_
        obtain ⟨hi_, h⟩ := h
        refine r_ial X hw 18 0 rfl rfl hi_ dX5_rankBy_32 ?_
        exact r_ret X hr hlk hw h dX5_rankBy_33
def wX5_rankBy (n : Nat) (M : Sg) (Q : Sg → Int32 → Prop) : Prop := (∃ g4_ : Nat, vX5_rankBy_4 n Q g4_ M (0 : Int32) (0 : Int32))
set_option maxHeartbeats 4000000 in
set_option maxRecDepth 100000 in
theorem kX5_rankBy {l : Launch} {D : va_G} {κ : Nat → ClassId} {η : Nat → Nat} {σ : (Nat → Nat) × (Nat → Nat)} {n : Nat} {M : Sg} {Q : Sg → Int32 → Prop} (h : wX5_rankBy n M Q) : Ki (cN σ) D (Ky κ) (cw κ η n) l yX5_rankBy wsX5_rankBy rmX5_rankBy [.ref (η 6), .ref (η 16)] M Q := by
  refine ofW_g (Qc := fun A => Qi D (Ky κ) (cw κ η n) A Q) (cc := cX5_rankBy) (maxL := 4) (ret := (some .int)) (by decide) rfl (Nat.le_of_ble_eq_true rfl) ?_
  intro p e s m args below meth c A ls X hr hlk hw hl
  have hl : lv_has ls 4 [(0, .ref (η 6)), (1, .ref (η 16))] := hl
  refine lv_iconst (v := (0 : Int32)) X.1 X.2.1 dX5_rankBy_0 (by decide) ?_
  refine lv_istore_n (lv' := [(2, .int (0 : Int32)), (0, .ref (η 6)), (1, .ref (η 16))]) X.1 X.2.1 dX5_rankBy_1 rfl hl (by decide) rfl (fun ls hl => ?_)
  refine lv_iconst (v := (0 : Int32)) X.1 X.2.1 dX5_rankBy_2 (by decide) ?_
  refine lv_istore_n (lv' := [(3, .int (0 : Int32)), (2, .int (0 : Int32)), (0, .ref (η 6)), (1, .ref (η 16))]) X.1 X.2.1 dX5_rankBy_3 rfl hl (by decide) rfl (fun ls hl => ?_)
  obtain ⟨f_, h⟩ := h
  exact bX5_rankBy_4 X hr hlk f_ M (0 : Int32) (0 : Int32) _ _ _ h hw (lv_sub hl [2, 3, 1, 0] rfl)

theorem inX6_peek_X6 : ∀ w ∈ wsX60, w ∈ wsX6_peek := fun w h => List.mem_cons_of_mem _ (List.mem_append_right _ h)
abbrev rmX6_peek : Room := { frames := 0, cells := 0, slots := 0, locals := 0 }
def wX6_peek (n : Nat) (M : Sg) (Q : Sg → Int32 → Prop) : Prop := (((gI M 19) ≤ (gI M 20) → (Q M (10017 : Int32))) ∧ (¬ (gI M 19) ≤ (gI M 20) → (vp_in (gI M 20) 601 ∧ (Q M (gA M 17 (gI M 20).toNatClampNeg)))))
set_option maxHeartbeats 4000000 in
set_option maxRecDepth 100000 in
theorem kX6_peek {l : Launch} {D : va_G} {κ : Nat → ClassId} {η : Nat → Nat} {σ : (Nat → Nat) × (Nat → Nat)} {n : Nat} {M : Sg} {Q : Sg → Int32 → Prop} (h : wX6_peek n M Q) : Ki (cN σ) D (Ky κ) (cw κ η n) l yX6_peek wsX6_peek rmX6_peek [.ref (η 4)] M Q := by
  refine ofW_g (Qc := fun A => Qi D (Ky κ) (cw κ η n) A Q) (cc := cX6_peek) (maxL := 1) (ret := (some .int)) (by decide) rfl (Nat.le_of_ble_eq_true rfl) ?_
  intro p e s m args below meth c A ls X hr hlk hw hl
  have hl : lv_has ls 1 [(0, .ref (η 4))] := hl
  refine lv_aload_n X.1 X.2.1 dX6_peek_0 rfl (lv_at hl 0 rfl) ?_
  refine r_gf X inX6_peek_X6 hw 4 rfl rfl 3 (by decide) (X.2.2.2.2 (.fieldLink RX6 40 "TestHall$TextReader" "next" "I") (by decide +kernel)) rfl rfl dX6_peek_1 ?_
  refine lv_aload_n X.1 X.2.1 dX6_peek_4 rfl (lv_at hl 0 rfl) ?_
  refine r_gf X inX6_peek_X6 hw 4 rfl rfl 2 (by decide) (X.2.2.2.2 (.fieldLink RX6 59 "TestHall$TextReader" "size" "I") (by decide +kernel)) rfl rfl dX6_peek_5 ?_
  obtain ⟨ht_, hf_⟩ := h
  refine lv_icmp_ge (tgt := 23) X.1 X.2.1 dX6_peek_8 (by decide) (fun c_ => ?_) (fun c_ => ?_)
  · have h := ht_ c_
    refine lv_sipush (v := (10017 : Int32)) X.1 X.2.1 dX6_peek_23 (by decide) ?_
    exact r_ret X hr hlk hw h dX6_peek_26
  · have h := hf_ c_
    refine lv_aload_n X.1 X.2.1 dX6_peek_11 rfl (lv_at hl 0 rfl) ?_
    refine r_gf X inX6_peek_X6 hw 4 rfl rfl 0 (by decide) (X.2.2.2.2 (.fieldLink RX6 11 "TestHall$TextReader" "tokens" "[I") (by decide +kernel)) rfl rfl dX6_peek_12 ?_
    refine lv_aload_n X.1 X.2.1 dX6_peek_15 rfl (lv_at hl 0 rfl) ?_
    refine r_gf X inX6_peek_X6 hw 4 rfl rfl 3 (by decide) (X.2.2.2.2 (.fieldLink RX6 40 "TestHall$TextReader" "next" "I") (by decide +kernel)) rfl rfl dX6_peek_16 ?_
    obtain ⟨hi_, h⟩ := h
    refine r_ial X hw 26 0 rfl rfl hi_ dX6_peek_19 ?_
    refine lv_goto (tgt := 26) X.1 X.2.1 dX6_peek_20 (by decide) ?_
    exact r_ret X hr hlk hw h dX6_peek_26

theorem inX6_placeOfNext_X6 : ∀ w ∈ wsX60, w ∈ wsX6_placeOfNext := fun w h => List.mem_cons_of_mem _ (List.mem_append_right _ h)
abbrev rmX6_placeOfNext : Room := { frames := 0, cells := 0, slots := 0, locals := 0 }
def wX6_placeOfNext (n : Nat) (M : Sg) (Q : Sg → Int32 → Prop) : Prop := (((gI M 19) ≤ (gI M 20) → (Q M (gI M 22))) ∧ (¬ (gI M 19) ≤ (gI M 20) → (vp_in (gI M 20) 601 ∧ (Q M (gA M 18 (gI M 20).toNatClampNeg)))))
set_option maxHeartbeats 4000000 in
set_option maxRecDepth 100000 in
theorem kX6_placeOfNext {l : Launch} {D : va_G} {κ : Nat → ClassId} {η : Nat → Nat} {σ : (Nat → Nat) × (Nat → Nat)} {n : Nat} {M : Sg} {Q : Sg → Int32 → Prop} (h : wX6_placeOfNext n M Q) : Ki (cN σ) D (Ky κ) (cw κ η n) l yX6_placeOfNext wsX6_placeOfNext rmX6_placeOfNext [.ref (η 4)] M Q := by
  refine ofW_g (Qc := fun A => Qi D (Ky κ) (cw κ η n) A Q) (cc := cX6_placeOfNext) (maxL := 1) (ret := (some .int)) (by decide) rfl (Nat.le_of_ble_eq_true rfl) ?_
  intro p e s m args below meth c A ls X hr hlk hw hl
  have hl : lv_has ls 1 [(0, .ref (η 4))] := hl
  refine lv_aload_n X.1 X.2.1 dX6_placeOfNext_0 rfl (lv_at hl 0 rfl) ?_
  refine r_gf X inX6_placeOfNext_X6 hw 4 rfl rfl 3 (by decide) (X.2.2.2.2 (.fieldLink RX6 40 "TestHall$TextReader" "next" "I") (by decide +kernel)) rfl rfl dX6_placeOfNext_1 ?_
  refine lv_aload_n X.1 X.2.1 dX6_placeOfNext_4 rfl (lv_at hl 0 rfl) ?_
  refine r_gf X inX6_placeOfNext_X6 hw 4 rfl rfl 2 (by decide) (X.2.2.2.2 (.fieldLink RX6 59 "TestHall$TextReader" "size" "I") (by decide +kernel)) rfl rfl dX6_placeOfNext_5 ?_
  obtain ⟨ht_, hf_⟩ := h
  refine lv_icmp_ge (tgt := 23) X.1 X.2.1 dX6_placeOfNext_8 (by decide) (fun c_ => ?_) (fun c_ => ?_)
  · have h := ht_ c_
    refine lv_aload_n X.1 X.2.1 dX6_placeOfNext_23 rfl (lv_at hl 0 rfl) ?_
    refine r_gf X inX6_placeOfNext_X6 hw 4 rfl rfl 6 (by decide) (X.2.2.2.2 (.fieldLink RX6 27 "TestHall$TextReader" "length" "I") (by decide +kernel)) rfl rfl dX6_placeOfNext_24 ?_
    exact r_ret X hr hlk hw h dX6_placeOfNext_27
  · have h := hf_ c_
    refine lv_aload_n X.1 X.2.1 dX6_placeOfNext_11 rfl (lv_at hl 0 rfl) ?_
    refine r_gf X inX6_placeOfNext_X6 hw 4 rfl rfl 1 (by decide) (X.2.2.2.2 (.fieldLink RX6 15 "TestHall$TextReader" "places" "[I") (by decide +kernel)) rfl rfl dX6_placeOfNext_12 ?_
    refine lv_aload_n X.1 X.2.1 dX6_placeOfNext_15 rfl (lv_at hl 0 rfl) ?_
    refine r_gf X inX6_placeOfNext_X6 hw 4 rfl rfl 3 (by decide) (X.2.2.2.2 (.fieldLink RX6 40 "TestHall$TextReader" "next" "I") (by decide +kernel)) rfl rfl dX6_placeOfNext_16 ?_
    obtain ⟨hi_, h⟩ := h
    refine r_ial X hw 27 0 rfl rfl hi_ dX6_placeOfNext_19 ?_
    refine lv_goto (tgt := 27) X.1 X.2.1 dX6_placeOfNext_20 (by decide) ?_
    exact r_ret X hr hlk hw h dX6_placeOfNext_27

theorem inX6_take_X6 : ∀ w ∈ wsX60, w ∈ wsX6_take := fun w h => List.mem_cons_of_mem _ (List.mem_append_right _ h)
abbrev rmX6_take : Room := { frames := 0, cells := 0, slots := 0, locals := 0 }
def wX6_take (n : Nat) (M : Sg) (a1 : Int32) (Q : Sg → Int32 → Prop) : Prop := (((gI M 19) ≤ (gI M 20) → (Q M (0 : Int32))) ∧ (¬ (gI M 19) ≤ (gI M 20) → (vp_in (gI M 20) 601 ∧ (((gA M 17 (gI M 20).toNatClampNeg) = a1 → (∀ (M_1 : Sg), M_1 = sI M 20 ((gI M 20) + (1 : Int32)) → (Q M_1 (1 : Int32)))) ∧ (¬ (gA M 17 (gI M 20).toNatClampNeg) = a1 → (Q M (0 : Int32)))))))
set_option maxHeartbeats 4000000 in
set_option maxRecDepth 100000 in
theorem kX6_take {l : Launch} {D : va_G} {κ : Nat → ClassId} {η : Nat → Nat} {σ : (Nat → Nat) × (Nat → Nat)} {n : Nat} {M : Sg} {a1 : Int32} {Q : Sg → Int32 → Prop} (h : wX6_take n M a1 Q) : Ki (cN σ) D (Ky κ) (cw κ η n) l yX6_take wsX6_take rmX6_take [.ref (η 4), .int a1] M Q := by
  refine ofW_g (Qc := fun A => Qi D (Ky κ) (cw κ η n) A Q) (cc := cX6_take) (maxL := 2) (ret := (some .boolean)) (by decide) rfl (Nat.le_of_ble_eq_true rfl) ?_
  intro p e s m args below meth c A ls X hr hlk hw hl
  have hl : lv_has ls 2 [(0, .ref (η 4)), (1, .int a1)] := hl
  refine lv_aload_n X.1 X.2.1 dX6_take_0 rfl (lv_at hl 0 rfl) ?_
  refine r_gf X inX6_take_X6 hw 4 rfl rfl 3 (by decide) (X.2.2.2.2 (.fieldLink RX6 40 "TestHall$TextReader" "next" "I") (by decide +kernel)) rfl rfl dX6_take_1 ?_
  refine lv_aload_n X.1 X.2.1 dX6_take_4 rfl (lv_at hl 0 rfl) ?_
  refine r_gf X inX6_take_X6 hw 4 rfl rfl 2 (by decide) (X.2.2.2.2 (.fieldLink RX6 59 "TestHall$TextReader" "size" "I") (by decide +kernel)) rfl rfl dX6_take_5 ?_
  obtain ⟨ht_, hf_⟩ := h
  refine lv_icmp_ge (tgt := 24) X.1 X.2.1 dX6_take_8 (by decide) (fun c_ => ?_) (fun c_ => ?_)
  · have h := ht_ c_
    refine lv_iconst (v := (0 : Int32)) X.1 X.2.1 dX6_take_24 (by decide) ?_
    exact r_zret X hr hlk hw rfl h dX6_take_25
  · have h := hf_ c_
    refine lv_aload_n X.1 X.2.1 dX6_take_11 rfl (lv_at hl 0 rfl) ?_
    refine r_gf X inX6_take_X6 hw 4 rfl rfl 0 (by decide) (X.2.2.2.2 (.fieldLink RX6 11 "TestHall$TextReader" "tokens" "[I") (by decide +kernel)) rfl rfl dX6_take_12 ?_
    refine lv_aload_n X.1 X.2.1 dX6_take_15 rfl (lv_at hl 0 rfl) ?_
    refine r_gf X inX6_take_X6 hw 4 rfl rfl 3 (by decide) (X.2.2.2.2 (.fieldLink RX6 40 "TestHall$TextReader" "next" "I") (by decide +kernel)) rfl rfl dX6_take_16 ?_
    obtain ⟨hi_, h⟩ := h
    refine r_ial X hw 26 0 rfl rfl hi_ dX6_take_19 ?_
    refine lv_iload_n X.1 X.2.1 dX6_take_20 rfl (lv_at hl 1 rfl) ?_
    obtain ⟨ht_, hf_⟩ := h
    refine lv_icmp_eq (tgt := 26) X.1 X.2.1 dX6_take_21 (by decide) (fun c_ => ?_) (fun c_ => ?_)
    · have h := ht_ c_
      refine lv_aload_n X.1 X.2.1 dX6_take_26 rfl (lv_at hl 0 rfl) ?_
      refine lv_dup X.1 X.2.1 dX6_take_27 rfl ?_
      refine r_gf X inX6_take_X6 hw 4 rfl rfl 3 (by decide) (X.2.2.2.2 (.fieldLink RX6 40 "TestHall$TextReader" "next" "I") (by decide +kernel)) rfl rfl dX6_take_28 ?_
      refine lv_iconst (v := (1 : Int32)) X.1 X.2.1 dX6_take_31 (by decide) ?_
      refine lv_iadd X.1 X.2.1 dX6_take_32 ?_
      refine r_pf (ty := .int) (w' := cw κ η n (sI M 20 ((gI M 20) + (1 : Int32)))) X inX6_take_X6 tyX6_ok nmX6 hw 4 rfl rfl 3 (by decide) (X.2.2.2.2 (.fieldLink RX6 40 "TestHall$TextReader" "next" "I") (by decide +kernel)) rfl rfl (by decide +kernel) rfl rfl (Nat.le_of_ble_eq_true rfl) rfl dX6_take_33 (fun H locs hw => ?_)
      obtain ⟨M_1, eM_1⟩ : ∃ y : Sg, y = sI M 20 ((gI M 20) + (1 : Int32)) := ⟨_, rfl⟩
      rw [← eM_1] at hw
      have h := h M_1 eM_1
      refine lv_iconst (v := (1 : Int32)) X.1 X.2.1 dX6_take_36 (by decide) ?_
      exact r_zret X hr hlk hw rfl h dX6_take_37
    · have h := hf_ c_
      refine lv_iconst (v := (0 : Int32)) X.1 X.2.1 dX6_take_24 (by decide) ?_
      exact r_zret X hr hlk hw rfl h dX6_take_25

theorem inX6_readPart_X6 : ∀ w ∈ wsX60, w ∈ wsX6_readPart := fun w h => List.mem_cons_of_mem _ (List.mem_append_left _ (List.mem_append_right _ h))
def vX6_readPart_21 (n : Nat) (W_ : Sg → Int32 → (Sg → Int32 → Prop) → Prop) (Q : Sg → Int32 → Prop) (M : Sg) (x1 : Int32) (x2 : Int32) : Prop := ((x1 < (5 : Int32) → (∀ (M_1 : Sg), M_1 = sI M 20 ((gI M 20) + (1 : Int32)) → ((¬ x2 = (10013 : Int32) → (gI M_1 24 = 1 ∧ (wX5_addCode n M_1 x2 (fun M_2 => (Q M_2 (1 : Int32)))))) ∧ (x2 = (10013 : Int32) → (W_ M_1 (x1 + (1 : Int32)) (fun M_4 r_5 => ((r_5 = 0 → (Q M_4 (0 : Int32))) ∧ (¬ r_5 = 0 → (wX6_take n M_4 (10014 : Int32) (fun M_6 r_7 => ((r_7 = 0 → (Q M_6 (0 : Int32))) ∧ (¬ r_7 = 0 → (Q M_6 (1 : Int32)))))))))))))) ∧ (¬ x1 < (5 : Int32) → (∀ (M_8 : Sg), M_8 = sI M 21 (5 : Int32) → (Q M_8 (0 : Int32)))))
set_option maxHeartbeats 4000000 in
set_option maxRecDepth 100000 in
theorem bX6_readPart_21 {p : Program} {l : Launch} {e : Env} {s : State} {m : MethodId} {args : Array Value} {below : List Frame} {meth : Method} {c : Code} {D : va_G} {κ : Nat → ClassId} {η : Nat → Nat} {σ : (Nat → Nat) × (Nat → Nat)} {A : Nat → Prop} {n : Nat} {Q : Sg → Int32 → Prop} {d_ : Nat} {W_ : Sg → Int32 → (Sg → Int32 → Prop) → Prop} (IH_ : ∀ {M : Sg} {b0 : Int32} {Q : Sg → Int32 → Prop}, W_ M b0 Q → Ki (cN σ) D (Ky κ) (cw κ η n) l yX6_readCondition wsX6_readCondition (rmX6_readCondition d_) [.ref (η 4), .int b0] M Q) (X : CallFix p m c cX6_readPart 3 s args wsX6_readPart RX6) (hr : meth.sig.returnType = (some .boolean)) (hlk : meth.locks = false) : ∀ (M : Sg) (x1 : Int32) (x2 : Int32) (H : Heap) (locs : List Loc) (ls : Array Slot), vX6_readPart_21 n W_ Q M x1 x2 → Wd (cN σ) D (Ky κ) A s (cw κ η n M) H locs → lv_has ls 3 [(0, .ref (η 4)), (1, .int x1), (2, .int x2)] → W p l e (rmX6_readPart d_) s m args below meth c H locs 0 0 (MQ below (Qi D (Ky κ) (cw κ η n) A Q) args s 0 0 A) (F0 m 21 ls []) := by
  intro M x1 x2 H locs ls h hw hl
  refine lv_iload_n X.1 X.2.1 dX6_readPart_21 rfl (lv_at hl 1 rfl) ?_
  refine lv_iconst (v := (5 : Int32)) X.1 X.2.1 dX6_readPart_22 (by decide) ?_
  obtain ⟨ht_, hf_⟩ := h
  refine lv_icmp_lt (tgt := 33) X.1 X.2.1 dX6_readPart_23 (by decide) (fun c_ => ?_) (fun c_ => ?_)
  · have h := ht_ c_
    refine lv_aload_n X.1 X.2.1 dX6_readPart_33 rfl (lv_at hl 0 rfl) ?_
    refine lv_dup X.1 X.2.1 dX6_readPart_34 rfl ?_
    refine r_gf X inX6_readPart_X6 hw 4 rfl rfl 3 (by decide) (X.2.2.2.2 (.fieldLink RX6 40 "TestHall$TextReader" "next" "I") (by decide +kernel)) rfl rfl dX6_readPart_35 ?_
    refine lv_iconst (v := (1 : Int32)) X.1 X.2.1 dX6_readPart_38 (by decide) ?_
    refine lv_iadd X.1 X.2.1 dX6_readPart_39 ?_
    refine r_pf (ty := .int) (w' := cw κ η n (sI M 20 ((gI M 20) + (1 : Int32)))) X inX6_readPart_X6 tyX6_ok nmX6 hw 4 rfl rfl 3 (by decide) (X.2.2.2.2 (.fieldLink RX6 40 "TestHall$TextReader" "next" "I") (by decide +kernel)) rfl rfl (by decide +kernel) rfl rfl (Nat.le_of_ble_eq_true rfl) rfl dX6_readPart_40 (fun H locs hw => ?_)
    obtain ⟨M_1, eM_1⟩ : ∃ y : Sg, y = sI M 20 ((gI M 20) + (1 : Int32)) := ⟨_, rfl⟩
    rw [← eM_1] at hw
    have h := h M_1 eM_1
    refine lv_iload_n X.1 X.2.1 dX6_readPart_43 rfl (lv_at hl 2 rfl) ?_
    refine lv_sipush (v := (10013 : Int32)) X.1 X.2.1 dX6_readPart_44 (by decide) ?_
    obtain ⟨ht_, hf_⟩ := h
    refine lv_icmp_ne (tgt := 76) X.1 X.2.1 dX6_readPart_47 (by decide) (fun c_ => ?_) (fun c_ => ?_)
    · have h := ht_ c_
      refine lv_aload_n X.1 X.2.1 dX6_readPart_76 rfl (lv_at hl 0 rfl) ?_
      obtain ⟨hg_, h⟩ := h
      refine r_gf X inX6_readPart_X6 hw 4 rfl rfl 7 (by decide) (X.2.2.2.2 (.fieldLink RX6 28 "TestHall$TextReader" "text" "LTestHall$Text;") (by decide +kernel)) rfl (rd_text hg_) dX6_readPart_77 ?_
      refine lv_iload_n X.1 X.2.1 dX6_readPart_80 rfl (lv_at hl 2 rfl) ?_
      refine r_Vv (As := [.int x2]) (rest := []) X cN_ok (kX5_addCode h) (cwV 1 X.2.2.2.2 gX6_readPart_X5_addCode rfl rfl rfl (by decide +kernel) ⟨by simp only [rmX6_readPart, rmX5_addCode]; omega, by simp only [rmX6_readPart, rmX5_addCode]; omega⟩) hw 7 5 rfl rfl rfl hl.1 rfl (Nat.le_of_ble_eq_true rfl) dX6_readPart_81 (fun M_2 H locs h hw => ?_)
      refine lv_iconst (v := (1 : Int32)) X.1 X.2.1 dX6_readPart_84 (by decide) ?_
      exact r_zret X hr hlk hw rfl h dX6_readPart_85
    · have h := hf_ c_
      refine lv_aload_n X.1 X.2.1 dX6_readPart_50 rfl (lv_at hl 0 rfl) ?_
      refine lv_iload_n X.1 X.2.1 dX6_readPart_51 rfl (lv_at hl 1 rfl) ?_
      refine lv_iconst (v := (1 : Int32)) X.1 X.2.1 dX6_readPart_52 (by decide) ?_
      refine lv_iadd X.1 X.2.1 dX6_readPart_53 ?_
      refine r_Vi (As := [.int (x1 + (1 : Int32))]) (rest := []) X cN_ok (IH_ h) (cwV 1 X.2.2.2.2 gX6_readPart_X6_readCondition rfl rfl rfl (by decide +kernel) ⟨by simp only [rmX6_readPart, rmX6_readCondition]; omega, by simp only [rmX6_readPart, rmX6_readCondition]; omega⟩) hw 4 6 rfl rfl rfl hl.1 rfl (Nat.le_of_ble_eq_true rfl) dX6_readPart_54 (fun r_5 M_4 H locs h hw => ?_)
      obtain ⟨ht_, hf_⟩ := h
      refine lv_if_eq (tgt := 74) X.1 X.2.1 dX6_readPart_57 (by decide) (fun c_ => ?_) (fun c_ => ?_)
      · have h := ht_ c_
        refine lv_iconst (v := (0 : Int32)) X.1 X.2.1 dX6_readPart_74 (by decide) ?_
        exact r_zret X hr hlk hw rfl h dX6_readPart_75
      · have h := hf_ c_
        refine lv_aload_n X.1 X.2.1 dX6_readPart_60 rfl (lv_at hl 0 rfl) ?_
        refine lv_sipush (v := (10014 : Int32)) X.1 X.2.1 dX6_readPart_61 (by decide) ?_
        refine r_Vi (As := [.int (10014 : Int32)]) (rest := []) X cN_ok (kX6_take h) (cwV 1 X.2.2.2.2 gX6_readPart_X6_take rfl rfl rfl (by decide +kernel) ⟨by simp only [rmX6_readPart, rmX6_take]; omega, by simp only [rmX6_readPart, rmX6_take]; omega⟩) hw 4 6 rfl rfl rfl hl.1 rfl (Nat.le_of_ble_eq_true rfl) dX6_readPart_64 (fun r_7 M_6 H locs h hw => ?_)
        obtain ⟨ht_, hf_⟩ := h
        refine lv_if_eq (tgt := 74) X.1 X.2.1 dX6_readPart_67 (by decide) (fun c_ => ?_) (fun c_ => ?_)
        · have h := ht_ c_
          refine lv_iconst (v := (0 : Int32)) X.1 X.2.1 dX6_readPart_74 (by decide) ?_
          exact r_zret X hr hlk hw rfl h dX6_readPart_75
        · have h := hf_ c_
          refine lv_iconst (v := (1 : Int32)) X.1 X.2.1 dX6_readPart_70 (by decide) ?_
          refine lv_goto (tgt := 75) X.1 X.2.1 dX6_readPart_71 (by decide) ?_
          exact r_zret X hr hlk hw rfl h dX6_readPart_75
  · have h := hf_ c_
    refine lv_aload_n X.1 X.2.1 dX6_readPart_26 rfl (lv_at hl 0 rfl) ?_
    refine lv_iconst (v := (5 : Int32)) X.1 X.2.1 dX6_readPart_27 (by decide) ?_
    refine r_pf (ty := .int) (w' := cw κ η n (sI M 21 (5 : Int32))) X inX6_readPart_X6 tyX6_ok nmX6 hw 4 rfl rfl 4 (by decide) (X.2.2.2.2 (.fieldLink RX6 43 "TestHall$TextReader" "fault" "I") (by decide +kernel)) rfl rfl (by decide +kernel) rfl rfl (Nat.le_of_ble_eq_true rfl) rfl dX6_readPart_28 (fun H locs hw => ?_)
    obtain ⟨M_8, eM_8⟩ : ∃ y : Sg, y = sI M 21 (5 : Int32) := ⟨_, rfl⟩
    rw [← eM_8] at hw
    have h := h M_8 eM_8
    refine lv_iconst (v := (0 : Int32)) X.1 X.2.1 dX6_readPart_31 (by decide) ?_
    exact r_zret X hr hlk hw rfl h dX6_readPart_32
def wX6_readPart (n : Nat) (W_ : Sg → Int32 → (Sg → Int32 → Prop) → Prop) (M : Sg) (a1 : Int32) (Q : Sg → Int32 → Prop) : Prop := (wX6_peek n M (fun M_1 r_2 => ((r_2 ≤ (10005 : Int32) → (vX6_readPart_21 n W_ Q M_1 a1 r_2)) ∧ (¬ r_2 ≤ (10005 : Int32) → ((r_2 = (10013 : Int32) → (vX6_readPart_21 n W_ Q M_1 a1 r_2)) ∧ (¬ r_2 = (10013 : Int32) → (Q M_1 (0 : Int32))))))))
set_option maxHeartbeats 4000000 in
set_option maxRecDepth 100000 in
theorem kX6_readPart {l : Launch} {D : va_G} {κ : Nat → ClassId} {η : Nat → Nat} {σ : (Nat → Nat) × (Nat → Nat)} {n : Nat} {d_ : Nat} {W_ : Sg → Int32 → (Sg → Int32 → Prop) → Prop} (IH_ : ∀ {M : Sg} {b0 : Int32} {Q : Sg → Int32 → Prop}, W_ M b0 Q → Ki (cN σ) D (Ky κ) (cw κ η n) l yX6_readCondition wsX6_readCondition (rmX6_readCondition d_) [.ref (η 4), .int b0] M Q) {M : Sg} {a1 : Int32} {Q : Sg → Int32 → Prop} (h : wX6_readPart n W_ M a1 Q) : Ki (cN σ) D (Ky κ) (cw κ η n) l yX6_readPart wsX6_readPart (rmX6_readPart d_) [.ref (η 4), .int a1] M Q := by
  refine ofW_g (Qc := fun A => Qi D (Ky κ) (cw κ η n) A Q) (cc := cX6_readPart) (maxL := 3) (ret := (some .boolean)) (by decide) rfl (Nat.le_of_ble_eq_true rfl) ?_
  intro p e s m args below meth c A ls X hr hlk hw hl
  have hl : lv_has ls 3 [(0, .ref (η 4)), (1, .int a1)] := hl
  refine lv_aload_n X.1 X.2.1 dX6_readPart_0 rfl (lv_at hl 0 rfl) ?_
  refine r_Vi (As := []) (rest := []) X cN_ok (kX6_peek h) (cwV 0 X.2.2.2.2 gX6_readPart_X6_peek rfl rfl rfl (by decide +kernel) ⟨by simp only [rmX6_readPart, rmX6_peek]; omega, by simp only [rmX6_readPart, rmX6_peek]; omega⟩) hw 4 6 rfl rfl rfl hl.1 rfl (Nat.le_of_ble_eq_true rfl) dX6_readPart_1 (fun r_2 M_1 H locs h hw => ?_)
  refine lv_istore_n (lv' := [(2, .int r_2), (0, .ref (η 4)), (1, .int a1)]) X.1 X.2.1 dX6_readPart_4 rfl hl (by decide) rfl (fun ls hl => ?_)
  refine lv_iload_n X.1 X.2.1 dX6_readPart_5 rfl (lv_at hl 0 rfl) ?_
  refine lv_sipush (v := (10005 : Int32)) X.1 X.2.1 dX6_readPart_6 (by decide) ?_
  obtain ⟨ht_, hf_⟩ := h
  refine lv_icmp_le (tgt := 21) X.1 X.2.1 dX6_readPart_9 (by decide) (fun c_ => ?_) (fun c_ => ?_)
  · have h := ht_ c_
    exact bX6_readPart_21 IH_ X hr hlk M_1 a1 r_2 _ _ _ h hw (lv_sub hl [1, 2, 0] rfl)
  · have h := hf_ c_
    refine lv_iload_n X.1 X.2.1 dX6_readPart_12 rfl (lv_at hl 0 rfl) ?_
    refine lv_sipush (v := (10013 : Int32)) X.1 X.2.1 dX6_readPart_13 (by decide) ?_
    obtain ⟨ht_, hf_⟩ := h
    refine lv_icmp_eq (tgt := 21) X.1 X.2.1 dX6_readPart_16 (by decide) (fun c_ => ?_) (fun c_ => ?_)
    · have h := ht_ c_
      exact bX6_readPart_21 IH_ X hr hlk M_1 a1 r_2 _ _ _ h hw (lv_sub hl [1, 2, 0] rfl)
    · have h := hf_ c_
      refine lv_iconst (v := (0 : Int32)) X.1 X.2.1 dX6_readPart_19 (by decide) ?_
      exact r_zret X hr hlk hw rfl h dX6_readPart_20

theorem inX6_readSum_X6 : ∀ w ∈ wsX60, w ∈ wsX6_readSum := fun w h => List.mem_cons_of_mem _ (List.mem_append_left _ (List.mem_append_right _ h))
def vX6_readSum_40 (n : Nat) (W_ : Sg → Int32 → (Sg → Int32 → Prop) → Prop) (K12 : Sg → Int32 → Int32 → Prop) (Q : Sg → Int32 → Prop) (M : Sg) (x1 : Int32) (x2 : Int32) (x3 : Int32) : Prop := (∀ (M_1 : Sg), M_1 = sI M 20 ((gI M 20) + (1 : Int32)) → (wX6_readPart n W_ M_1 x1 (fun M_2 r_3 => ((¬ r_3 = 0 → (gI M_2 24 = 1 ∧ (wX5_addCode n M_2 x3 (fun M_4 => (∀ (x_6 : Int32), x_6 = x2 + (1 : Int32) → (K12 M_4 x1 x_6)))))) ∧ (r_3 = 0 → (Q M_2 (0 : Int32)))))))
set_option maxHeartbeats 4000000 in
set_option maxRecDepth 100000 in
theorem bX6_readSum_40 {p : Program} {l : Launch} {e : Env} {s : State} {m : MethodId} {args : Array Value} {below : List Frame} {meth : Method} {c : Code} {D : va_G} {κ : Nat → ClassId} {η : Nat → Nat} {σ : (Nat → Nat) × (Nat → Nat)} {A : Nat → Prop} {n : Nat} {Q : Sg → Int32 → Prop} {d_ : Nat} {W_ : Sg → Int32 → (Sg → Int32 → Prop) → Prop} (IH_ : ∀ {M : Sg} {b0 : Int32} {Q : Sg → Int32 → Prop}, W_ M b0 Q → Ki (cN σ) D (Ky κ) (cw κ η n) l yX6_readCondition wsX6_readCondition (rmX6_readCondition d_) [.ref (η 4), .int b0] M Q) {K12 : Sg → Int32 → Int32 → Prop} (X : CallFix p m c cX6_readSum 4 s args wsX6_readSum RX6) (hr : meth.sig.returnType = (some .boolean)) (hlk : meth.locks = false) (hK12 : ∀ (M : Sg) (x1 : Int32) (x2 : Int32) (H : Heap) (locs : List Loc) (ls : Array Slot), K12 M x1 x2 → Wd (cN σ) D (Ky κ) A s (cw κ η n M) H locs → lv_has ls 4 [(0, .ref (η 4)), (1, .int x1), (2, .int x2)] → W p l e (rmX6_readSum d_) s m args below meth c H locs 0 0 (MQ below (Qi D (Ky κ) (cw κ η n) A Q) args s 0 0 A) (F0 m 12 ls [])) : ∀ (M : Sg) (x1 : Int32) (x2 : Int32) (x3 : Int32) (H : Heap) (locs : List Loc) (ls : Array Slot), vX6_readSum_40 n W_ K12 Q M x1 x2 x3 → Wd (cN σ) D (Ky κ) A s (cw κ η n M) H locs → lv_has ls 4 [(0, .ref (η 4)), (1, .int x1), (2, .int x2), (3, .int x3)] → W p l e (rmX6_readSum d_) s m args below meth c H locs 0 0 (MQ below (Qi D (Ky κ) (cw κ η n) A Q) args s 0 0 A) (F0 m 40 ls []) := by
  intro M x1 x2 x3 H locs ls h hw hl
  refine lv_aload_n X.1 X.2.1 dX6_readSum_40 rfl (lv_at hl 0 rfl) ?_
  refine lv_dup X.1 X.2.1 dX6_readSum_41 rfl ?_
  refine r_gf X inX6_readSum_X6 hw 4 rfl rfl 3 (by decide) (X.2.2.2.2 (.fieldLink RX6 40 "TestHall$TextReader" "next" "I") (by decide +kernel)) rfl rfl dX6_readSum_42 ?_
  refine lv_iconst (v := (1 : Int32)) X.1 X.2.1 dX6_readSum_45 (by decide) ?_
  refine lv_iadd X.1 X.2.1 dX6_readSum_46 ?_
  refine r_pf (ty := .int) (w' := cw κ η n (sI M 20 ((gI M 20) + (1 : Int32)))) X inX6_readSum_X6 tyX6_ok nmX6 hw 4 rfl rfl 3 (by decide) (X.2.2.2.2 (.fieldLink RX6 40 "TestHall$TextReader" "next" "I") (by decide +kernel)) rfl rfl (by decide +kernel) rfl rfl (Nat.le_of_ble_eq_true rfl) rfl dX6_readSum_47 (fun H locs hw => ?_)
  obtain ⟨M_1, eM_1⟩ : ∃ y : Sg, y = sI M 20 ((gI M 20) + (1 : Int32)) := ⟨_, rfl⟩
  rw [← eM_1] at hw
  have h := h M_1 eM_1
  refine lv_aload_n X.1 X.2.1 dX6_readSum_50 rfl (lv_at hl 0 rfl) ?_
  refine lv_iload_n X.1 X.2.1 dX6_readSum_51 rfl (lv_at hl 1 rfl) ?_
  refine r_Vi (As := [.int x1]) (rest := []) X cN_ok (kX6_readPart IH_ h) (cwV 1 X.2.2.2.2 gX6_readSum_X6_readPart rfl rfl rfl (by decide +kernel) ⟨by simp only [rmX6_readSum, rmX6_readPart]; omega, by simp only [rmX6_readSum, rmX6_readPart]; omega⟩) hw 4 6 rfl rfl rfl hl.1 rfl (Nat.le_of_ble_eq_true rfl) dX6_readSum_52 (fun r_3 M_2 H locs h hw => ?_)
  obtain ⟨ht_, hf_⟩ := h
  refine lv_if_ne (tgt := 60) X.1 X.2.1 dX6_readSum_55 (by decide) (fun c_ => ?_) (fun c_ => ?_)
  · have h := ht_ c_
    refine lv_aload_n X.1 X.2.1 dX6_readSum_60 rfl (lv_at hl 0 rfl) ?_
    obtain ⟨hg_, h⟩ := h
    refine r_gf X inX6_readSum_X6 hw 4 rfl rfl 7 (by decide) (X.2.2.2.2 (.fieldLink RX6 28 "TestHall$TextReader" "text" "LTestHall$Text;") (by decide +kernel)) rfl (rd_text hg_) dX6_readSum_61 ?_
    refine lv_iload_n X.1 X.2.1 dX6_readSum_64 rfl (lv_at hl 3 rfl) ?_
    refine r_Vv (As := [.int x3]) (rest := []) X cN_ok (kX5_addCode h) (cwV 1 X.2.2.2.2 gX6_readSum_X5_addCode rfl rfl rfl (by decide +kernel) ⟨by simp only [rmX6_readSum, rmX5_addCode]; omega, by simp only [rmX6_readSum, rmX5_addCode]; omega⟩) hw 7 5 rfl rfl rfl hl.1 rfl (Nat.le_of_ble_eq_true rfl) dX6_readSum_65 (fun M_4 H locs h hw => ?_)
    obtain ⟨x_6, ex_6⟩ : ∃ y : Int32, y = x2 + (1 : Int32) := ⟨_, rfl⟩
    have h := h x_6 ex_6
    refine lv_iinc (v := x_6) (lv' := [(2, .int x_6), (0, .ref (η 4)), (1, .int x1), (3, .int x3)]) X.1 X.2.1 dX6_readSum_68 hl (k := 2) rfl (by rw [ex_6]; rfl) (by decide) rfl (fun ls hl => ?_)
    refine lv_goto (tgt := 12) X.1 X.2.1 dX6_readSum_71 (by decide) ?_
    exact hK12 M_4 x1 x_6 _ _ _ h hw (lv_sub hl [1, 2, 0] rfl)
  · have h := hf_ c_
    refine lv_iconst (v := (0 : Int32)) X.1 X.2.1 dX6_readSum_58 (by decide) ?_
    exact r_zret X hr hlk hw rfl h dX6_readSum_59
def vX6_readSum_12 (n : Nat) (W_ : Sg → Int32 → (Sg → Int32 → Prop) → Prop) (Q : Sg → Int32 → Prop) : Nat → Sg → Int32 → Int32 → Prop
  | 0, _, _, _ => False
  | f12_ + 1, M, x1, x2 => (((601 : Int32) ≤ x2 → (Q M (1 : Int32))) ∧ (¬ (601 : Int32) ≤ x2 → (wX6_peek n M (fun M_1 r_2 => ((r_2 = (10006 : Int32) → (vX6_readSum_40 n W_ (vX6_readSum_12 n W_ Q f12_) Q M_1 x1 x2 r_2)) ∧ (¬ r_2 = (10006 : Int32) → ((r_2 = (10007 : Int32) → (vX6_readSum_40 n W_ (vX6_readSum_12 n W_ Q f12_) Q M_1 x1 x2 r_2)) ∧ (¬ r_2 = (10007 : Int32) → (Q M_1 (1 : Int32))))))))))
set_option maxHeartbeats 4000000 in
set_option maxRecDepth 100000 in
theorem bX6_readSum_12 {p : Program} {l : Launch} {e : Env} {s : State} {m : MethodId} {args : Array Value} {below : List Frame} {meth : Method} {c : Code} {D : va_G} {κ : Nat → ClassId} {η : Nat → Nat} {σ : (Nat → Nat) × (Nat → Nat)} {A : Nat → Prop} {n : Nat} {Q : Sg → Int32 → Prop} {d_ : Nat} {W_ : Sg → Int32 → (Sg → Int32 → Prop) → Prop} (IH_ : ∀ {M : Sg} {b0 : Int32} {Q : Sg → Int32 → Prop}, W_ M b0 Q → Ki (cN σ) D (Ky κ) (cw κ η n) l yX6_readCondition wsX6_readCondition (rmX6_readCondition d_) [.ref (η 4), .int b0] M Q) (X : CallFix p m c cX6_readSum 4 s args wsX6_readSum RX6) (hr : meth.sig.returnType = (some .boolean)) (hlk : meth.locks = false) : ∀ (f_ : Nat) (M : Sg) (x1 : Int32) (x2 : Int32) (H : Heap) (locs : List Loc) (ls : Array Slot), vX6_readSum_12 n W_ Q f_ M x1 x2 → Wd (cN σ) D (Ky κ) A s (cw κ η n M) H locs → lv_has ls 4 [(0, .ref (η 4)), (1, .int x1), (2, .int x2)] → W p l e (rmX6_readSum d_) s m args below meth c H locs 0 0 (MQ below (Qi D (Ky κ) (cw κ η n) A Q) args s 0 0 A) (F0 m 12 ls []) := by
  intro f_
  induction f_ with
  | zero => intro M x1 x2 H locs ls h; exact h.elim
  | succ f_ hK12 =>
    intro M x1 x2 H locs ls h hw hl
    refine lv_iload_n X.1 X.2.1 dX6_readSum_12 rfl (lv_at hl 2 rfl) ?_
    refine lv_sipush (v := (601 : Int32)) X.1 X.2.1 dX6_readSum_13 (by decide) ?_
    obtain ⟨ht_, hf_⟩ := h
    refine lv_icmp_ge (tgt := 74) X.1 X.2.1 dX6_readSum_16 (by decide) (fun c_ => ?_) (fun c_ => ?_)
    · have h := ht_ c_
      refine lv_iconst (v := (1 : Int32)) X.1 X.2.1 dX6_readSum_74 (by decide) ?_
      exact r_zret X hr hlk hw rfl h dX6_readSum_75
    · have h := hf_ c_
      refine lv_aload_n X.1 X.2.1 dX6_readSum_19 rfl (lv_at hl 0 rfl) ?_
      refine r_Vi (As := []) (rest := []) X cN_ok (kX6_peek h) (cwV 0 X.2.2.2.2 gX6_readSum_X6_peek rfl rfl rfl (by decide +kernel) ⟨by simp only [rmX6_readSum, rmX6_peek]; omega, by simp only [rmX6_readSum, rmX6_peek]; omega⟩) hw 4 6 rfl rfl rfl hl.1 rfl (Nat.le_of_ble_eq_true rfl) dX6_readSum_20 (fun r_2 M_1 H locs h hw => ?_)
      refine lv_istore_n (lv' := [(3, .int r_2), (0, .ref (η 4)), (1, .int x1), (2, .int x2)]) X.1 X.2.1 dX6_readSum_23 rfl hl (by decide) rfl (fun ls hl => ?_)
      refine lv_iload_n X.1 X.2.1 dX6_readSum_24 rfl (lv_at hl 0 rfl) ?_
      refine lv_sipush (v := (10006 : Int32)) X.1 X.2.1 dX6_readSum_25 (by decide) ?_
      obtain ⟨ht_, hf_⟩ := h
      refine lv_icmp_eq (tgt := 40) X.1 X.2.1 dX6_readSum_28 (by decide) (fun c_ => ?_) (fun c_ => ?_)
      · have h := ht_ c_
        exact bX6_readSum_40 IH_ X hr hlk hK12 M_1 x1 x2 r_2 _ _ _ h hw (lv_sub hl [1, 2, 3, 0] rfl)
      · have h := hf_ c_
        refine lv_iload_n X.1 X.2.1 dX6_readSum_31 rfl (lv_at hl 0 rfl) ?_
        refine lv_sipush (v := (10007 : Int32)) X.1 X.2.1 dX6_readSum_32 (by decide) ?_
        obtain ⟨ht_, hf_⟩ := h
        refine lv_icmp_eq (tgt := 40) X.1 X.2.1 dX6_readSum_35 (by decide) (fun c_ => ?_) (fun c_ => ?_)
        · have h := ht_ c_
          exact bX6_readSum_40 IH_ X hr hlk hK12 M_1 x1 x2 r_2 _ _ _ h hw (lv_sub hl [1, 2, 3, 0] rfl)
        · have h := hf_ c_
          refine lv_iconst (v := (1 : Int32)) X.1 X.2.1 dX6_readSum_38 (by decide) ?_
          exact r_zret X hr hlk hw rfl h dX6_readSum_39
def wX6_readSum (n : Nat) (W_ : Sg → Int32 → (Sg → Int32 → Prop) → Prop) (M : Sg) (a1 : Int32) (Q : Sg → Int32 → Prop) : Prop := (wX6_readPart n W_ M a1 (fun M_1 r_2 => ((¬ r_2 = 0 → (∃ g12_ : Nat, vX6_readSum_12 n W_ Q g12_ M_1 a1 (0 : Int32))) ∧ (r_2 = 0 → (Q M_1 (0 : Int32))))))
set_option maxHeartbeats 4000000 in
set_option maxRecDepth 100000 in
theorem kX6_readSum {l : Launch} {D : va_G} {κ : Nat → ClassId} {η : Nat → Nat} {σ : (Nat → Nat) × (Nat → Nat)} {n : Nat} {d_ : Nat} {W_ : Sg → Int32 → (Sg → Int32 → Prop) → Prop} (IH_ : ∀ {M : Sg} {b0 : Int32} {Q : Sg → Int32 → Prop}, W_ M b0 Q → Ki (cN σ) D (Ky κ) (cw κ η n) l yX6_readCondition wsX6_readCondition (rmX6_readCondition d_) [.ref (η 4), .int b0] M Q) {M : Sg} {a1 : Int32} {Q : Sg → Int32 → Prop} (h : wX6_readSum n W_ M a1 Q) : Ki (cN σ) D (Ky κ) (cw κ η n) l yX6_readSum wsX6_readSum (rmX6_readSum d_) [.ref (η 4), .int a1] M Q := by
  refine ofW_g (Qc := fun A => Qi D (Ky κ) (cw κ η n) A Q) (cc := cX6_readSum) (maxL := 4) (ret := (some .boolean)) (by decide) rfl (Nat.le_of_ble_eq_true rfl) ?_
  intro p e s m args below meth c A ls X hr hlk hw hl
  have hl : lv_has ls 4 [(0, .ref (η 4)), (1, .int a1)] := hl
  refine lv_aload_n X.1 X.2.1 dX6_readSum_0 rfl (lv_at hl 0 rfl) ?_
  refine lv_iload_n X.1 X.2.1 dX6_readSum_1 rfl (lv_at hl 1 rfl) ?_
  refine r_Vi (As := [.int a1]) (rest := []) X cN_ok (kX6_readPart IH_ h) (cwV 1 X.2.2.2.2 gX6_readSum_X6_readPart rfl rfl rfl (by decide +kernel) ⟨by simp only [rmX6_readSum, rmX6_readPart]; omega, by simp only [rmX6_readSum, rmX6_readPart]; omega⟩) hw 4 6 rfl rfl rfl hl.1 rfl (Nat.le_of_ble_eq_true rfl) dX6_readSum_2 (fun r_2 M_1 H locs h hw => ?_)
  obtain ⟨ht_, hf_⟩ := h
  refine lv_if_ne (tgt := 10) X.1 X.2.1 dX6_readSum_5 (by decide) (fun c_ => ?_) (fun c_ => ?_)
  · have h := ht_ c_
    refine lv_iconst (v := (0 : Int32)) X.1 X.2.1 dX6_readSum_10 (by decide) ?_
    refine lv_istore_n (lv' := [(2, .int (0 : Int32)), (0, .ref (η 4)), (1, .int a1)]) X.1 X.2.1 dX6_readSum_11 rfl hl (by decide) rfl (fun ls hl => ?_)
    obtain ⟨f_, h⟩ := h
    exact bX6_readSum_12 IH_ X hr hlk f_ M_1 a1 (0 : Int32) _ _ _ h hw (lv_sub hl [1, 2, 0] rfl)
  · have h := hf_ c_
    refine lv_iconst (v := (0 : Int32)) X.1 X.2.1 dX6_readSum_8 (by decide) ?_
    exact r_zret X hr hlk hw rfl h dX6_readSum_9

theorem inX6_readTest_X6 : ∀ w ∈ wsX60, w ∈ wsX6_readTest := fun w h => List.mem_cons_of_mem _ (List.mem_append_left _ (List.mem_append_right _ h))
def vX6_readTest_31 (n : Nat) (W_ : Sg → Int32 → (Sg → Int32 → Prop) → Prop) (Q : Sg → Int32 → Prop) (M : Sg) (x1 : Int32) (x2 : Int32) : Prop := (∀ (M_1 : Sg), M_1 = sI M 20 ((gI M 20) + (1 : Int32)) → (wX6_readSum n W_ M_1 x1 (fun M_2 r_3 => ((¬ r_3 = 0 → (gI M_2 24 = 1 ∧ (wX5_addCode n M_2 x2 (fun M_4 => (Q M_4 (1 : Int32)))))) ∧ (r_3 = 0 → (Q M_2 (0 : Int32)))))))
set_option maxHeartbeats 4000000 in
set_option maxRecDepth 100000 in
theorem bX6_readTest_31 {p : Program} {l : Launch} {e : Env} {s : State} {m : MethodId} {args : Array Value} {below : List Frame} {meth : Method} {c : Code} {D : va_G} {κ : Nat → ClassId} {η : Nat → Nat} {σ : (Nat → Nat) × (Nat → Nat)} {A : Nat → Prop} {n : Nat} {Q : Sg → Int32 → Prop} {d_ : Nat} {W_ : Sg → Int32 → (Sg → Int32 → Prop) → Prop} (IH_ : ∀ {M : Sg} {b0 : Int32} {Q : Sg → Int32 → Prop}, W_ M b0 Q → Ki (cN σ) D (Ky κ) (cw κ η n) l yX6_readCondition wsX6_readCondition (rmX6_readCondition d_) [.ref (η 4), .int b0] M Q) (X : CallFix p m c cX6_readTest 3 s args wsX6_readTest RX6) (hr : meth.sig.returnType = (some .boolean)) (hlk : meth.locks = false) : ∀ (M : Sg) (x1 : Int32) (x2 : Int32) (H : Heap) (locs : List Loc) (ls : Array Slot), vX6_readTest_31 n W_ Q M x1 x2 → Wd (cN σ) D (Ky κ) A s (cw κ η n M) H locs → lv_has ls 3 [(0, .ref (η 4)), (1, .int x1), (2, .int x2)] → W p l e (rmX6_readTest d_) s m args below meth c H locs 0 0 (MQ below (Qi D (Ky κ) (cw κ η n) A Q) args s 0 0 A) (F0 m 31 ls []) := by
  intro M x1 x2 H locs ls h hw hl
  refine lv_aload_n X.1 X.2.1 dX6_readTest_31 rfl (lv_at hl 0 rfl) ?_
  refine lv_dup X.1 X.2.1 dX6_readTest_32 rfl ?_
  refine r_gf X inX6_readTest_X6 hw 4 rfl rfl 3 (by decide) (X.2.2.2.2 (.fieldLink RX6 40 "TestHall$TextReader" "next" "I") (by decide +kernel)) rfl rfl dX6_readTest_33 ?_
  refine lv_iconst (v := (1 : Int32)) X.1 X.2.1 dX6_readTest_36 (by decide) ?_
  refine lv_iadd X.1 X.2.1 dX6_readTest_37 ?_
  refine r_pf (ty := .int) (w' := cw κ η n (sI M 20 ((gI M 20) + (1 : Int32)))) X inX6_readTest_X6 tyX6_ok nmX6 hw 4 rfl rfl 3 (by decide) (X.2.2.2.2 (.fieldLink RX6 40 "TestHall$TextReader" "next" "I") (by decide +kernel)) rfl rfl (by decide +kernel) rfl rfl (Nat.le_of_ble_eq_true rfl) rfl dX6_readTest_38 (fun H locs hw => ?_)
  obtain ⟨M_1, eM_1⟩ : ∃ y : Sg, y = sI M 20 ((gI M 20) + (1 : Int32)) := ⟨_, rfl⟩
  rw [← eM_1] at hw
  have h := h M_1 eM_1
  refine lv_aload_n X.1 X.2.1 dX6_readTest_41 rfl (lv_at hl 0 rfl) ?_
  refine lv_iload_n X.1 X.2.1 dX6_readTest_42 rfl (lv_at hl 1 rfl) ?_
  refine r_Vi (As := [.int x1]) (rest := []) X cN_ok (kX6_readSum IH_ h) (cwV 1 X.2.2.2.2 gX6_readTest_X6_readSum rfl rfl rfl (by decide +kernel) ⟨by simp only [rmX6_readTest, rmX6_readSum]; omega, by simp only [rmX6_readTest, rmX6_readSum]; omega⟩) hw 4 6 rfl rfl rfl hl.1 rfl (Nat.le_of_ble_eq_true rfl) dX6_readTest_43 (fun r_3 M_2 H locs h hw => ?_)
  obtain ⟨ht_, hf_⟩ := h
  refine lv_if_ne (tgt := 51) X.1 X.2.1 dX6_readTest_46 (by decide) (fun c_ => ?_) (fun c_ => ?_)
  · have h := ht_ c_
    refine lv_aload_n X.1 X.2.1 dX6_readTest_51 rfl (lv_at hl 0 rfl) ?_
    obtain ⟨hg_, h⟩ := h
    refine r_gf X inX6_readTest_X6 hw 4 rfl rfl 7 (by decide) (X.2.2.2.2 (.fieldLink RX6 28 "TestHall$TextReader" "text" "LTestHall$Text;") (by decide +kernel)) rfl (rd_text hg_) dX6_readTest_52 ?_
    refine lv_iload_n X.1 X.2.1 dX6_readTest_55 rfl (lv_at hl 2 rfl) ?_
    refine r_Vv (As := [.int x2]) (rest := []) X cN_ok (kX5_addCode h) (cwV 1 X.2.2.2.2 gX6_readTest_X5_addCode rfl rfl rfl (by decide +kernel) ⟨by simp only [rmX6_readTest, rmX5_addCode]; omega, by simp only [rmX6_readTest, rmX5_addCode]; omega⟩) hw 7 5 rfl rfl rfl hl.1 rfl (Nat.le_of_ble_eq_true rfl) dX6_readTest_56 (fun M_4 H locs h hw => ?_)
    refine lv_iconst (v := (1 : Int32)) X.1 X.2.1 dX6_readTest_59 (by decide) ?_
    exact r_zret X hr hlk hw rfl h dX6_readTest_60
  · have h := hf_ c_
    refine lv_iconst (v := (0 : Int32)) X.1 X.2.1 dX6_readTest_49 (by decide) ?_
    exact r_zret X hr hlk hw rfl h dX6_readTest_50
def wX6_readTest (n : Nat) (W_ : Sg → Int32 → (Sg → Int32 → Prop) → Prop) (M : Sg) (a1 : Int32) (Q : Sg → Int32 → Prop) : Prop := (wX6_readSum n W_ M a1 (fun M_1 r_2 => ((¬ r_2 = 0 → (wX6_peek n M_1 (fun M_3 r_4 => ((r_4 = (10008 : Int32) → (vX6_readTest_31 n W_ Q M_3 a1 r_4)) ∧ (¬ r_4 = (10008 : Int32) → ((r_4 = (10009 : Int32) → (vX6_readTest_31 n W_ Q M_3 a1 r_4)) ∧ (¬ r_4 = (10009 : Int32) → (Q M_3 (1 : Int32))))))))) ∧ (r_2 = 0 → (Q M_1 (0 : Int32))))))
set_option maxHeartbeats 4000000 in
set_option maxRecDepth 100000 in
theorem kX6_readTest {l : Launch} {D : va_G} {κ : Nat → ClassId} {η : Nat → Nat} {σ : (Nat → Nat) × (Nat → Nat)} {n : Nat} {d_ : Nat} {W_ : Sg → Int32 → (Sg → Int32 → Prop) → Prop} (IH_ : ∀ {M : Sg} {b0 : Int32} {Q : Sg → Int32 → Prop}, W_ M b0 Q → Ki (cN σ) D (Ky κ) (cw κ η n) l yX6_readCondition wsX6_readCondition (rmX6_readCondition d_) [.ref (η 4), .int b0] M Q) {M : Sg} {a1 : Int32} {Q : Sg → Int32 → Prop} (h : wX6_readTest n W_ M a1 Q) : Ki (cN σ) D (Ky κ) (cw κ η n) l yX6_readTest wsX6_readTest (rmX6_readTest d_) [.ref (η 4), .int a1] M Q := by
  refine ofW_g (Qc := fun A => Qi D (Ky κ) (cw κ η n) A Q) (cc := cX6_readTest) (maxL := 3) (ret := (some .boolean)) (by decide) rfl (Nat.le_of_ble_eq_true rfl) ?_
  intro p e s m args below meth c A ls X hr hlk hw hl
  have hl : lv_has ls 3 [(0, .ref (η 4)), (1, .int a1)] := hl
  refine lv_aload_n X.1 X.2.1 dX6_readTest_0 rfl (lv_at hl 0 rfl) ?_
  refine lv_iload_n X.1 X.2.1 dX6_readTest_1 rfl (lv_at hl 1 rfl) ?_
  refine r_Vi (As := [.int a1]) (rest := []) X cN_ok (kX6_readSum IH_ h) (cwV 1 X.2.2.2.2 gX6_readTest_X6_readSum rfl rfl rfl (by decide +kernel) ⟨by simp only [rmX6_readTest, rmX6_readSum]; omega, by simp only [rmX6_readTest, rmX6_readSum]; omega⟩) hw 4 6 rfl rfl rfl hl.1 rfl (Nat.le_of_ble_eq_true rfl) dX6_readTest_2 (fun r_2 M_1 H locs h hw => ?_)
  obtain ⟨ht_, hf_⟩ := h
  refine lv_if_ne (tgt := 10) X.1 X.2.1 dX6_readTest_5 (by decide) (fun c_ => ?_) (fun c_ => ?_)
  · have h := ht_ c_
    refine lv_aload_n X.1 X.2.1 dX6_readTest_10 rfl (lv_at hl 0 rfl) ?_
    refine r_Vi (As := []) (rest := []) X cN_ok (kX6_peek h) (cwV 0 X.2.2.2.2 gX6_readTest_X6_peek rfl rfl rfl (by decide +kernel) ⟨by simp only [rmX6_readTest, rmX6_peek]; omega, by simp only [rmX6_readTest, rmX6_peek]; omega⟩) hw 4 6 rfl rfl rfl hl.1 rfl (Nat.le_of_ble_eq_true rfl) dX6_readTest_11 (fun r_4 M_3 H locs h hw => ?_)
    refine lv_istore_n (lv' := [(2, .int r_4), (0, .ref (η 4)), (1, .int a1)]) X.1 X.2.1 dX6_readTest_14 rfl hl (by decide) rfl (fun ls hl => ?_)
    refine lv_iload_n X.1 X.2.1 dX6_readTest_15 rfl (lv_at hl 0 rfl) ?_
    refine lv_sipush (v := (10008 : Int32)) X.1 X.2.1 dX6_readTest_16 (by decide) ?_
    obtain ⟨ht_, hf_⟩ := h
    refine lv_icmp_eq (tgt := 31) X.1 X.2.1 dX6_readTest_19 (by decide) (fun c_ => ?_) (fun c_ => ?_)
    · have h := ht_ c_
      exact bX6_readTest_31 IH_ X hr hlk M_3 a1 r_4 _ _ _ h hw (lv_sub hl [1, 2, 0] rfl)
    · have h := hf_ c_
      refine lv_iload_n X.1 X.2.1 dX6_readTest_22 rfl (lv_at hl 0 rfl) ?_
      refine lv_sipush (v := (10009 : Int32)) X.1 X.2.1 dX6_readTest_23 (by decide) ?_
      obtain ⟨ht_, hf_⟩ := h
      refine lv_icmp_eq (tgt := 31) X.1 X.2.1 dX6_readTest_26 (by decide) (fun c_ => ?_) (fun c_ => ?_)
      · have h := ht_ c_
        exact bX6_readTest_31 IH_ X hr hlk M_3 a1 r_4 _ _ _ h hw (lv_sub hl [1, 2, 0] rfl)
      · have h := hf_ c_
        refine lv_iconst (v := (1 : Int32)) X.1 X.2.1 dX6_readTest_29 (by decide) ?_
        exact r_zret X hr hlk hw rfl h dX6_readTest_30
  · have h := hf_ c_
    refine lv_iconst (v := (0 : Int32)) X.1 X.2.1 dX6_readTest_8 (by decide) ?_
    exact r_zret X hr hlk hw rfl h dX6_readTest_9

theorem inX6_readCondition_X6 : ∀ w ∈ wsX60, w ∈ wsX6_readCondition := fun w h => List.mem_cons_of_mem _ (List.mem_append_left _ (List.mem_append_right _ h))
def vX6_readCondition_12 (n : Nat) (W_ : Sg → Int32 → (Sg → Int32 → Prop) → Prop) (Q : Sg → Int32 → Prop) : Nat → Sg → Int32 → Int32 → Prop
  | 0, _, _, _ => False
  | f12_ + 1, M, x1, x2 => (((601 : Int32) ≤ x2 → (Q M (1 : Int32))) ∧ (¬ (601 : Int32) ≤ x2 → (wX6_take n M (10010 : Int32) (fun M_1 r_2 => ((r_2 = 0 → (Q M_1 (1 : Int32))) ∧ (¬ r_2 = 0 → (wX6_readTest n W_ M_1 x1 (fun M_3 r_4 => ((¬ r_4 = 0 → (gI M_3 24 = 1 ∧ (wX5_addCode n M_3 (10010 : Int32) (fun M_5 => (∀ (x_7 : Int32), x_7 = x2 + (1 : Int32) → (vX6_readCondition_12 n W_ Q f12_ M_5 x1 x_7)))))) ∧ (r_4 = 0 → (Q M_3 (0 : Int32))))))))))))
set_option maxHeartbeats 4000000 in
set_option maxRecDepth 100000 in
theorem bX6_readCondition_12 {p : Program} {l : Launch} {e : Env} {s : State} {m : MethodId} {args : Array Value} {below : List Frame} {meth : Method} {c : Code} {D : va_G} {κ : Nat → ClassId} {η : Nat → Nat} {σ : (Nat → Nat) × (Nat → Nat)} {A : Nat → Prop} {n : Nat} {Q : Sg → Int32 → Prop} {d_ : Nat} {W_ : Sg → Int32 → (Sg → Int32 → Prop) → Prop} (IH_ : ∀ {M : Sg} {b0 : Int32} {Q : Sg → Int32 → Prop}, W_ M b0 Q → Ki (cN σ) D (Ky κ) (cw κ η n) l yX6_readCondition wsX6_readCondition (rmX6_readCondition d_) [.ref (η 4), .int b0] M Q) (X : CallFix p m c cX6_readCondition 3 s args wsX6_readCondition RX6) (hr : meth.sig.returnType = (some .boolean)) (hlk : meth.locks = false) : ∀ (f_ : Nat) (M : Sg) (x1 : Int32) (x2 : Int32) (H : Heap) (locs : List Loc) (ls : Array Slot), vX6_readCondition_12 n W_ Q f_ M x1 x2 → Wd (cN σ) D (Ky κ) A s (cw κ η n M) H locs → lv_has ls 3 [(0, .ref (η 4)), (1, .int x1), (2, .int x2)] → W p l e (rmX6_readCondition (d_ + 1)) s m args below meth c H locs 0 0 (MQ below (Qi D (Ky κ) (cw κ η n) A Q) args s 0 0 A) (F0 m 12 ls []) := by
  intro f_
  induction f_ with
  | zero => intro M x1 x2 H locs ls h; exact h.elim
  | succ f_ hK12 =>
    intro M x1 x2 H locs ls h hw hl
    refine lv_iload_n X.1 X.2.1 dX6_readCondition_12 rfl (lv_at hl 2 rfl) ?_
    refine lv_sipush (v := (601 : Int32)) X.1 X.2.1 dX6_readCondition_13 (by decide) ?_
    obtain ⟨ht_, hf_⟩ := h
    refine lv_icmp_ge (tgt := 55) X.1 X.2.1 dX6_readCondition_16 (by decide) (fun c_ => ?_) (fun c_ => ?_)
    · have h := ht_ c_
      refine lv_iconst (v := (1 : Int32)) X.1 X.2.1 dX6_readCondition_55 (by decide) ?_
      exact r_zret X hr hlk hw rfl h dX6_readCondition_56
    · have h := hf_ c_
      refine lv_aload_n X.1 X.2.1 dX6_readCondition_19 rfl (lv_at hl 0 rfl) ?_
      refine lv_sipush (v := (10010 : Int32)) X.1 X.2.1 dX6_readCondition_20 (by decide) ?_
      refine r_Vi (As := [.int (10010 : Int32)]) (rest := []) X cN_ok (kX6_take h) (cwV 1 X.2.2.2.2 gX6_readCondition_X6_take rfl rfl rfl (by decide +kernel) ⟨by simp only [rmX6_readCondition, rmX6_take]; omega, by simp only [rmX6_readCondition, rmX6_take]; omega⟩) hw 4 6 rfl rfl rfl hl.1 rfl (Nat.le_of_ble_eq_true rfl) dX6_readCondition_23 (fun r_2 M_1 H locs h hw => ?_)
      obtain ⟨ht_, hf_⟩ := h
      refine lv_if_eq (tgt := 55) X.1 X.2.1 dX6_readCondition_26 (by decide) (fun c_ => ?_) (fun c_ => ?_)
      · have h := ht_ c_
        refine lv_iconst (v := (1 : Int32)) X.1 X.2.1 dX6_readCondition_55 (by decide) ?_
        exact r_zret X hr hlk hw rfl h dX6_readCondition_56
      · have h := hf_ c_
        refine lv_aload_n X.1 X.2.1 dX6_readCondition_29 rfl (lv_at hl 0 rfl) ?_
        refine lv_iload_n X.1 X.2.1 dX6_readCondition_30 rfl (lv_at hl 1 rfl) ?_
        refine r_Vi (As := [.int x1]) (rest := []) X cN_ok (kX6_readTest IH_ h) (cwV 1 X.2.2.2.2 gX6_readCondition_X6_readTest rfl rfl rfl (by decide +kernel) ⟨by simp only [rmX6_readCondition, rmX6_readTest]; omega, by simp only [rmX6_readCondition, rmX6_readTest]; omega⟩) hw 4 6 rfl rfl rfl hl.1 rfl (Nat.le_of_ble_eq_true rfl) dX6_readCondition_31 (fun r_4 M_3 H locs h hw => ?_)
        obtain ⟨ht_, hf_⟩ := h
        refine lv_if_ne (tgt := 39) X.1 X.2.1 dX6_readCondition_34 (by decide) (fun c_ => ?_) (fun c_ => ?_)
        · have h := ht_ c_
          refine lv_aload_n X.1 X.2.1 dX6_readCondition_39 rfl (lv_at hl 0 rfl) ?_
          obtain ⟨hg_, h⟩ := h
          refine r_gf X inX6_readCondition_X6 hw 4 rfl rfl 7 (by decide) (X.2.2.2.2 (.fieldLink RX6 28 "TestHall$TextReader" "text" "LTestHall$Text;") (by decide +kernel)) rfl (rd_text hg_) dX6_readCondition_40 ?_
          refine lv_sipush (v := (10010 : Int32)) X.1 X.2.1 dX6_readCondition_43 (by decide) ?_
          refine r_Vv (As := [.int (10010 : Int32)]) (rest := []) X cN_ok (kX5_addCode h) (cwV 1 X.2.2.2.2 gX6_readCondition_X5_addCode rfl rfl rfl (by decide +kernel) ⟨by simp only [rmX6_readCondition, rmX5_addCode]; omega, by simp only [rmX6_readCondition, rmX5_addCode]; omega⟩) hw 7 5 rfl rfl rfl hl.1 rfl (Nat.le_of_ble_eq_true rfl) dX6_readCondition_46 (fun M_5 H locs h hw => ?_)
          obtain ⟨x_7, ex_7⟩ : ∃ y : Int32, y = x2 + (1 : Int32) := ⟨_, rfl⟩
          have h := h x_7 ex_7
          refine lv_iinc (v := x_7) (lv' := [(2, .int x_7), (0, .ref (η 4)), (1, .int x1)]) X.1 X.2.1 dX6_readCondition_49 hl (k := 2) rfl (by rw [ex_7]; rfl) (by decide) rfl (fun ls hl => ?_)
          refine lv_goto (tgt := 12) X.1 X.2.1 dX6_readCondition_52 (by decide) ?_
          exact hK12 M_5 x1 x_7 _ _ _ h hw (lv_sub hl [1, 2, 0] rfl)
        · have h := hf_ c_
          refine lv_iconst (v := (0 : Int32)) X.1 X.2.1 dX6_readCondition_37 (by decide) ?_
          exact r_zret X hr hlk hw rfl h dX6_readCondition_38
def wX6_readCondition_b (n : Nat) (W_ : Sg → Int32 → (Sg → Int32 → Prop) → Prop) (M : Sg) (a1 : Int32) (Q : Sg → Int32 → Prop) : Prop := (wX6_readTest n W_ M a1 (fun M_1 r_2 => ((¬ r_2 = 0 → (∃ g12_ : Nat, vX6_readCondition_12 n W_ Q g12_ M_1 a1 (0 : Int32))) ∧ (r_2 = 0 → (Q M_1 (0 : Int32))))))
set_option maxHeartbeats 4000000 in
set_option maxRecDepth 100000 in
theorem kX6_readCondition_b {l : Launch} {D : va_G} {κ : Nat → ClassId} {η : Nat → Nat} {σ : (Nat → Nat) × (Nat → Nat)} {n : Nat} {d_ : Nat} {W_ : Sg → Int32 → (Sg → Int32 → Prop) → Prop} (IH_ : ∀ {M : Sg} {b0 : Int32} {Q : Sg → Int32 → Prop}, W_ M b0 Q → Ki (cN σ) D (Ky κ) (cw κ η n) l yX6_readCondition wsX6_readCondition (rmX6_readCondition d_) [.ref (η 4), .int b0] M Q) {M : Sg} {a1 : Int32} {Q : Sg → Int32 → Prop} (h : wX6_readCondition_b n W_ M a1 Q) : Ki (cN σ) D (Ky κ) (cw κ η n) l yX6_readCondition wsX6_readCondition (rmX6_readCondition (d_ + 1)) [.ref (η 4), .int a1] M Q := by
  refine ofW_g (Qc := fun A => Qi D (Ky κ) (cw κ η n) A Q) (cc := cX6_readCondition) (maxL := 3) (ret := (some .boolean)) (by decide) rfl (Nat.le_of_ble_eq_true rfl) ?_
  intro p e s m args below meth c A ls X hr hlk hw hl
  have hl : lv_has ls 3 [(0, .ref (η 4)), (1, .int a1)] := hl
  refine lv_aload_n X.1 X.2.1 dX6_readCondition_0 rfl (lv_at hl 0 rfl) ?_
  refine lv_iload_n X.1 X.2.1 dX6_readCondition_1 rfl (lv_at hl 1 rfl) ?_
  refine r_Vi (As := [.int a1]) (rest := []) X cN_ok (kX6_readTest IH_ h) (cwV 1 X.2.2.2.2 gX6_readCondition_X6_readTest rfl rfl rfl (by decide +kernel) ⟨by simp only [rmX6_readCondition, rmX6_readTest]; omega, by simp only [rmX6_readCondition, rmX6_readTest]; omega⟩) hw 4 6 rfl rfl rfl hl.1 rfl (Nat.le_of_ble_eq_true rfl) dX6_readCondition_2 (fun r_2 M_1 H locs h hw => ?_)
  obtain ⟨ht_, hf_⟩ := h
  refine lv_if_ne (tgt := 10) X.1 X.2.1 dX6_readCondition_5 (by decide) (fun c_ => ?_) (fun c_ => ?_)
  · have h := ht_ c_
    refine lv_iconst (v := (0 : Int32)) X.1 X.2.1 dX6_readCondition_10 (by decide) ?_
    refine lv_istore_n (lv' := [(2, .int (0 : Int32)), (0, .ref (η 4)), (1, .int a1)]) X.1 X.2.1 dX6_readCondition_11 rfl hl (by decide) rfl (fun ls hl => ?_)
    obtain ⟨f_, h⟩ := h
    exact bX6_readCondition_12 IH_ X hr hlk f_ M_1 a1 (0 : Int32) _ _ _ h hw (lv_sub hl [1, 2, 0] rfl)
  · have h := hf_ c_
    refine lv_iconst (v := (0 : Int32)) X.1 X.2.1 dX6_readCondition_8 (by decide) ?_
    exact r_zret X hr hlk hw rfl h dX6_readCondition_9
def wX6_readCondition (n : Nat) : Nat → Sg → Int32 → (Sg → Int32 → Prop) → Prop
  | 0 => fun _ _ _ => False
  | d_ + 1 => wX6_readCondition_b n (wX6_readCondition n d_)
theorem kX6_readCondition {l : Launch} {D : va_G} {κ : Nat → ClassId} {η : Nat → Nat} {σ : (Nat → Nat) × (Nat → Nat)} {n : Nat} : ∀ {d_ : Nat} {M : Sg} {a1 : Int32} {Q : Sg → Int32 → Prop}, wX6_readCondition n d_ M a1 Q → Ki (cN σ) D (Ky κ) (cw κ η n) l yX6_readCondition wsX6_readCondition (rmX6_readCondition d_) [.ref (η 4), .int a1] M Q := by
  intro d_
  induction d_ with
  | zero => intro M a1 Q h; exact h.elim
  | succ d_ IH_ => intro M a1 Q h; exact kX6_readCondition_b (W_ := wX6_readCondition n d_) IH_ h

theorem inX6_readLine_X5 : ∀ w ∈ wsX50, w ∈ wsX6_readLine := fun w h => List.mem_cons_of_mem _ (List.mem_append_right _ h)
theorem inX6_readLine_X6 : ∀ w ∈ wsX60, w ∈ wsX6_readLine := fun w h => List.mem_cons_of_mem _ (List.mem_append_left _ (List.mem_append_right _ h))
abbrev rmX6_readLine : Room := { frames := 33, cells := 0, slots := 0, locals := 822 }
def vX6_readLine_65 (n : Nat) (Q : Sg → Int32 → Prop) (M : Sg) (s0 : Int32) : Prop := (∀ (M_1 : Sg), M_1 = sI M 21 s0 → (Q M_1 (0 : Int32)))
set_option maxHeartbeats 4000000 in
set_option maxRecDepth 100000 in
theorem bX6_readLine_65 {p : Program} {l : Launch} {e : Env} {s : State} {m : MethodId} {args : Array Value} {below : List Frame} {meth : Method} {c : Code} {D : va_G} {κ : Nat → ClassId} {η : Nat → Nat} {σ : (Nat → Nat) × (Nat → Nat)} {A : Nat → Prop} {n : Nat} {Q : Sg → Int32 → Prop} (X : CallFix p m c cX6_readLine 2 s args wsX6_readLine RX6) (hr : meth.sig.returnType = (some .boolean)) (hlk : meth.locks = false) : ∀ (M : Sg) (s0 : Int32) (H : Heap) (locs : List Loc) (ls : Array Slot), vX6_readLine_65 n Q M s0 → Wd (cN σ) D (Ky κ) A s (cw κ η n M) H locs → lv_has ls 2 [] → W p l e rmX6_readLine s m args below meth c H locs 0 0 (MQ below (Qi D (Ky κ) (cw κ η n) A Q) args s 0 0 A) (F0 m 65 ls [.int s0, .ref (η 4)]) := by
  intro M s0 H locs ls h hw hl
  refine r_pf (ty := .int) (w' := cw κ η n (sI M 21 s0)) X inX6_readLine_X6 tyX6_ok nmX6 hw 4 rfl rfl 4 (by decide) (X.2.2.2.2 (.fieldLink RX6 43 "TestHall$TextReader" "fault" "I") (by decide +kernel)) rfl rfl (by decide +kernel) rfl rfl (Nat.le_of_ble_eq_true rfl) rfl dX6_readLine_65 (fun H locs hw => ?_)
  obtain ⟨M_1, eM_1⟩ : ∃ y : Sg, y = sI M 21 s0 := ⟨_, rfl⟩
  rw [← eM_1] at hw
  have h := h M_1 eM_1
  refine lv_iconst (v := (0 : Int32)) X.1 X.2.1 dX6_readLine_68 (by decide) ?_
  exact r_zret X hr hlk hw rfl h dX6_readLine_69
def vX6_readLine_29 (n : Nat) (Q : Sg → Int32 → Prop) (M : Sg) : Prop := (wX6_take n M (10011 : Int32) (fun M_1 r_2 => ((¬ r_2 = 0 → (wX6_peek n M_1 (fun M_3 r_4 => ((r_4 ≤ (99 : Int32) → (∀ (M_5 : Sg), M_5 = sI M_3 20 ((gI M_3 20) + (1 : Int32)) → (wX6_take n M_5 (10012 : Int32) (fun M_6 r_7 => ((r_7 = 0 → (Q M_6 (0 : Int32))) ∧ (¬ r_7 = 0 → (wX6_readCondition n 7 M_6 (0 : Int32) (fun M_8 r_9 => ((r_9 = 0 → (Q M_8 (0 : Int32))) ∧ (¬ r_9 = 0 → (wX6_take n M_8 (10015 : Int32) (fun M_10 r_11 => ((¬ r_11 = 0 → (gI M_10 24 = 1 ∧ (wX5_addLine n M_10 r_4 (fun M_12 => (Q M_12 (1 : Int32)))))) ∧ (r_11 = 0 → (Q M_10 (0 : Int32)))))))))))))))) ∧ (¬ r_4 ≤ (99 : Int32) → (((9999 : Int32) < r_4 → (vX6_readLine_65 n Q M_3 (1 : Int32))) ∧ (¬ (9999 : Int32) < r_4 → (vX6_readLine_65 n Q M_3 (4 : Int32))))))))) ∧ (r_2 = 0 → (Q M_1 (0 : Int32))))))
set_option maxHeartbeats 4000000 in
set_option maxRecDepth 100000 in
theorem bX6_readLine_29 {p : Program} {l : Launch} {e : Env} {s : State} {m : MethodId} {args : Array Value} {below : List Frame} {meth : Method} {c : Code} {D : va_G} {κ : Nat → ClassId} {η : Nat → Nat} {σ : (Nat → Nat) × (Nat → Nat)} {A : Nat → Prop} {n : Nat} {Q : Sg → Int32 → Prop} (X : CallFix p m c cX6_readLine 2 s args wsX6_readLine RX6) (hr : meth.sig.returnType = (some .boolean)) (hlk : meth.locks = false) : ∀ (M : Sg) (H : Heap) (locs : List Loc) (ls : Array Slot), vX6_readLine_29 n Q M → Wd (cN σ) D (Ky κ) A s (cw κ η n M) H locs → lv_has ls 2 [(0, .ref (η 4))] → W p l e rmX6_readLine s m args below meth c H locs 0 0 (MQ below (Qi D (Ky κ) (cw κ η n) A Q) args s 0 0 A) (F0 m 29 ls []) := by
  intro M H locs ls h hw hl
  refine lv_aload_n X.1 X.2.1 dX6_readLine_29 rfl (lv_at hl 0 rfl) ?_
  refine lv_sipush (v := (10011 : Int32)) X.1 X.2.1 dX6_readLine_30 (by decide) ?_
  refine r_Vi (As := [.int (10011 : Int32)]) (rest := []) X cN_ok (kX6_take h) (cwV 1 X.2.2.2.2 gX6_readLine_X6_take rfl rfl rfl (by decide +kernel) ⟨Nat.le_of_ble_eq_true rfl, Nat.le_of_ble_eq_true rfl⟩) hw 4 6 rfl rfl rfl hl.1 rfl (Nat.le_of_ble_eq_true rfl) dX6_readLine_33 (fun r_2 M_1 H locs h hw => ?_)
  obtain ⟨ht_, hf_⟩ := h
  refine lv_if_ne (tgt := 41) X.1 X.2.1 dX6_readLine_36 (by decide) (fun c_ => ?_) (fun c_ => ?_)
  · have h := ht_ c_
    refine lv_aload_n X.1 X.2.1 dX6_readLine_41 rfl (lv_at hl 0 rfl) ?_
    refine r_Vi (As := []) (rest := []) X cN_ok (kX6_peek h) (cwV 0 X.2.2.2.2 gX6_readLine_X6_peek rfl rfl rfl (by decide +kernel) ⟨Nat.le_of_ble_eq_true rfl, Nat.le_of_ble_eq_true rfl⟩) hw 4 6 rfl rfl rfl hl.1 rfl (Nat.le_of_ble_eq_true rfl) dX6_readLine_42 (fun r_4 M_3 H locs h hw => ?_)
    refine lv_istore_n (lv' := [(1, .int r_4), (0, .ref (η 4))]) X.1 X.2.1 dX6_readLine_45 rfl hl (by decide) rfl (fun ls hl => ?_)
    refine lv_iload_n X.1 X.2.1 dX6_readLine_46 rfl (lv_at hl 0 rfl) ?_
    refine lv_bipush (v := (99 : Int32)) X.1 X.2.1 dX6_readLine_47 (by decide) ?_
    obtain ⟨ht_, hf_⟩ := h
    refine lv_icmp_le (tgt := 70) X.1 X.2.1 dX6_readLine_49 (by decide) (fun c_ => ?_) (fun c_ => ?_)
    · have h := ht_ c_
      refine lv_aload_n X.1 X.2.1 dX6_readLine_70 rfl (lv_at hl 1 rfl) ?_
      refine lv_dup X.1 X.2.1 dX6_readLine_71 rfl ?_
      refine r_gf X inX6_readLine_X6 hw 4 rfl rfl 3 (by decide) (X.2.2.2.2 (.fieldLink RX6 40 "TestHall$TextReader" "next" "I") (by decide +kernel)) rfl rfl dX6_readLine_72 ?_
      refine lv_iconst (v := (1 : Int32)) X.1 X.2.1 dX6_readLine_75 (by decide) ?_
      refine lv_iadd X.1 X.2.1 dX6_readLine_76 ?_
      refine r_pf (ty := .int) (w' := cw κ η n (sI M_3 20 ((gI M_3 20) + (1 : Int32)))) X inX6_readLine_X6 tyX6_ok nmX6 hw 4 rfl rfl 3 (by decide) (X.2.2.2.2 (.fieldLink RX6 40 "TestHall$TextReader" "next" "I") (by decide +kernel)) rfl rfl (by decide +kernel) rfl rfl (Nat.le_of_ble_eq_true rfl) rfl dX6_readLine_77 (fun H locs hw => ?_)
      obtain ⟨M_5, eM_5⟩ : ∃ y : Sg, y = sI M_3 20 ((gI M_3 20) + (1 : Int32)) := ⟨_, rfl⟩
      rw [← eM_5] at hw
      have h := h M_5 eM_5
      refine lv_aload_n X.1 X.2.1 dX6_readLine_80 rfl (lv_at hl 1 rfl) ?_
      refine lv_sipush (v := (10012 : Int32)) X.1 X.2.1 dX6_readLine_81 (by decide) ?_
      refine r_Vi (As := [.int (10012 : Int32)]) (rest := []) X cN_ok (kX6_take h) (cwV 1 X.2.2.2.2 gX6_readLine_X6_take rfl rfl rfl (by decide +kernel) ⟨Nat.le_of_ble_eq_true rfl, Nat.le_of_ble_eq_true rfl⟩) hw 4 6 rfl rfl rfl hl.1 rfl (Nat.le_of_ble_eq_true rfl) dX6_readLine_84 (fun r_7 M_6 H locs h hw => ?_)
      obtain ⟨ht_, hf_⟩ := h
      refine lv_if_eq (tgt := 108) X.1 X.2.1 dX6_readLine_87 (by decide) (fun c_ => ?_) (fun c_ => ?_)
      · have h := ht_ c_
        refine lv_iconst (v := (0 : Int32)) X.1 X.2.1 dX6_readLine_108 (by decide) ?_
        exact r_zret X hr hlk hw rfl h dX6_readLine_109
      · have h := hf_ c_
        refine lv_aload_n X.1 X.2.1 dX6_readLine_90 rfl (lv_at hl 1 rfl) ?_
        refine lv_iconst (v := (0 : Int32)) X.1 X.2.1 dX6_readLine_91 (by decide) ?_
        refine r_Vi (As := [.int (0 : Int32)]) (rest := []) X cN_ok (kX6_readCondition h) (cwV 1 X.2.2.2.2 gX6_readLine_X6_readCondition rfl rfl rfl (by decide +kernel) ⟨Nat.le_of_ble_eq_true rfl, Nat.le_of_ble_eq_true rfl⟩) hw 4 6 rfl rfl rfl hl.1 rfl (Nat.le_of_ble_eq_true rfl) dX6_readLine_92 (fun r_9 M_8 H locs h hw => ?_)
        obtain ⟨ht_, hf_⟩ := h
        refine lv_if_eq (tgt := 108) X.1 X.2.1 dX6_readLine_95 (by decide) (fun c_ => ?_) (fun c_ => ?_)
        · have h := ht_ c_
          refine lv_iconst (v := (0 : Int32)) X.1 X.2.1 dX6_readLine_108 (by decide) ?_
          exact r_zret X hr hlk hw rfl h dX6_readLine_109
        · have h := hf_ c_
          refine lv_aload_n X.1 X.2.1 dX6_readLine_98 rfl (lv_at hl 1 rfl) ?_
          refine lv_sipush (v := (10015 : Int32)) X.1 X.2.1 dX6_readLine_99 (by decide) ?_
          refine r_Vi (As := [.int (10015 : Int32)]) (rest := []) X cN_ok (kX6_take h) (cwV 1 X.2.2.2.2 gX6_readLine_X6_take rfl rfl rfl (by decide +kernel) ⟨Nat.le_of_ble_eq_true rfl, Nat.le_of_ble_eq_true rfl⟩) hw 4 6 rfl rfl rfl hl.1 rfl (Nat.le_of_ble_eq_true rfl) dX6_readLine_102 (fun r_11 M_10 H locs h hw => ?_)
          obtain ⟨ht_, hf_⟩ := h
          refine lv_if_ne (tgt := 110) X.1 X.2.1 dX6_readLine_105 (by decide) (fun c_ => ?_) (fun c_ => ?_)
          · have h := ht_ c_
            refine lv_aload_n X.1 X.2.1 dX6_readLine_110 rfl (lv_at hl 1 rfl) ?_
            obtain ⟨hg_, h⟩ := h
            refine r_gf X inX6_readLine_X6 hw 4 rfl rfl 7 (by decide) (X.2.2.2.2 (.fieldLink RX6 28 "TestHall$TextReader" "text" "LTestHall$Text;") (by decide +kernel)) rfl (rd_text hg_) dX6_readLine_111 ?_
            refine lv_iload_n X.1 X.2.1 dX6_readLine_114 rfl (lv_at hl 0 rfl) ?_
            refine r_Vv (As := [.int r_4]) (rest := []) X cN_ok (kX5_addLine h) (cwV 1 X.2.2.2.2 gX6_readLine_X5_addLine rfl rfl rfl (by decide +kernel) ⟨Nat.le_of_ble_eq_true rfl, Nat.le_of_ble_eq_true rfl⟩) hw 7 5 rfl rfl rfl hl.1 rfl (Nat.le_of_ble_eq_true rfl) dX6_readLine_115 (fun M_12 H locs h hw => ?_)
            refine lv_iconst (v := (1 : Int32)) X.1 X.2.1 dX6_readLine_118 (by decide) ?_
            exact r_zret X hr hlk hw rfl h dX6_readLine_119
          · have h := hf_ c_
            refine lv_iconst (v := (0 : Int32)) X.1 X.2.1 dX6_readLine_108 (by decide) ?_
            exact r_zret X hr hlk hw rfl h dX6_readLine_109
    · have h := hf_ c_
      refine lv_aload_n X.1 X.2.1 dX6_readLine_52 rfl (lv_at hl 1 rfl) ?_
      refine lv_iload_n X.1 X.2.1 dX6_readLine_53 rfl (lv_at hl 0 rfl) ?_
      refine lv_sipush (v := (9999 : Int32)) X.1 X.2.1 dX6_readLine_54 (by decide) ?_
      obtain ⟨ht_, hf_⟩ := h
      refine lv_icmp_gt (tgt := 64) X.1 X.2.1 dX6_readLine_57 (by decide) (fun c_ => ?_) (fun c_ => ?_)
      · have h := ht_ c_
        refine lv_iconst (v := (1 : Int32)) X.1 X.2.1 dX6_readLine_64 (by decide) ?_
        exact bX6_readLine_65 X hr hlk M_3 (1 : Int32) _ _ _ h hw (lv_sub hl [] rfl)
      · have h := hf_ c_
        refine lv_iconst (v := (4 : Int32)) X.1 X.2.1 dX6_readLine_60 (by decide) ?_
        refine lv_goto (tgt := 65) X.1 X.2.1 dX6_readLine_61 (by decide) ?_
        exact bX6_readLine_65 X hr hlk M_3 (4 : Int32) _ _ _ h hw (lv_sub hl [] rfl)
  · have h := hf_ c_
    refine lv_iconst (v := (0 : Int32)) X.1 X.2.1 dX6_readLine_39 (by decide) ?_
    exact r_zret X hr hlk hw rfl h dX6_readLine_40
def wX6_readLine (n : Nat) (M : Sg) (Q : Sg → Int32 → Prop) : Prop := (wX6_peek n M (fun M_1 r_2 => ((¬ r_2 = (10011 : Int32) → (vX6_readLine_29 n Q M_1)) ∧ (r_2 = (10011 : Int32) → (gI M_1 24 = 1 ∧ (((gI M_1 17) < (16 : Int32) → (vX6_readLine_29 n Q M_1)) ∧ (¬ (gI M_1 17) < (16 : Int32) → (∀ (M_3 : Sg), M_3 = sI M_1 21 (5 : Int32) → (Q M_3 (0 : Int32))))))))))
set_option maxHeartbeats 4000000 in
set_option maxRecDepth 100000 in
theorem kX6_readLine {l : Launch} {D : va_G} {κ : Nat → ClassId} {η : Nat → Nat} {σ : (Nat → Nat) × (Nat → Nat)} {n : Nat} {M : Sg} {Q : Sg → Int32 → Prop} (h : wX6_readLine n M Q) : Ki (cN σ) D (Ky κ) (cw κ η n) l yX6_readLine wsX6_readLine rmX6_readLine [.ref (η 4)] M Q := by
  refine ofW_g (Qc := fun A => Qi D (Ky κ) (cw κ η n) A Q) (cc := cX6_readLine) (maxL := 2) (ret := (some .boolean)) (by decide) rfl (Nat.le_of_ble_eq_true rfl) ?_
  intro p e s m args below meth c A ls X hr hlk hw hl
  have hl : lv_has ls 2 [(0, .ref (η 4))] := hl
  refine lv_aload_n X.1 X.2.1 dX6_readLine_0 rfl (lv_at hl 0 rfl) ?_
  refine r_Vi (As := []) (rest := []) X cN_ok (kX6_peek h) (cwV 0 X.2.2.2.2 gX6_readLine_X6_peek rfl rfl rfl (by decide +kernel) ⟨Nat.le_of_ble_eq_true rfl, Nat.le_of_ble_eq_true rfl⟩) hw 4 6 rfl rfl rfl hl.1 rfl (Nat.le_of_ble_eq_true rfl) dX6_readLine_1 (fun r_2 M_1 H locs h hw => ?_)
  refine lv_sipush (v := (10011 : Int32)) X.1 X.2.1 dX6_readLine_4 (by decide) ?_
  obtain ⟨ht_, hf_⟩ := h
  refine lv_icmp_ne (tgt := 29) X.1 X.2.1 dX6_readLine_7 (by decide) (fun c_ => ?_) (fun c_ => ?_)
  · have h := ht_ c_
    exact bX6_readLine_29 X hr hlk M_1 _ _ _ h hw (lv_sub hl [0] rfl)
  · have h := hf_ c_
    refine lv_aload_n X.1 X.2.1 dX6_readLine_10 rfl (lv_at hl 0 rfl) ?_
    obtain ⟨hg_, h⟩ := h
    refine r_gf X inX6_readLine_X6 hw 4 rfl rfl 7 (by decide) (X.2.2.2.2 (.fieldLink RX6 28 "TestHall$TextReader" "text" "LTestHall$Text;") (by decide +kernel)) rfl (rd_text hg_) dX6_readLine_11 ?_
    refine r_gf X inX6_readLine_X5 hw 7 rfl rfl 4 (by decide) (X.2.2.2.2 (.fieldLink RX6 62 "TestHall$Text" "lines" "I") (by decide +kernel)) rfl rfl dX6_readLine_14 ?_
    refine lv_bipush (v := (16 : Int32)) X.1 X.2.1 dX6_readLine_17 (by decide) ?_
    obtain ⟨ht_, hf_⟩ := h
    refine lv_icmp_lt (tgt := 29) X.1 X.2.1 dX6_readLine_19 (by decide) (fun c_ => ?_) (fun c_ => ?_)
    · have h := ht_ c_
      exact bX6_readLine_29 X hr hlk M_1 _ _ _ h hw (lv_sub hl [0] rfl)
    · have h := hf_ c_
      refine lv_aload_n X.1 X.2.1 dX6_readLine_22 rfl (lv_at hl 0 rfl) ?_
      refine lv_iconst (v := (5 : Int32)) X.1 X.2.1 dX6_readLine_23 (by decide) ?_
      refine r_pf (ty := .int) (w' := cw κ η n (sI M_1 21 (5 : Int32))) X inX6_readLine_X6 tyX6_ok nmX6 hw 4 rfl rfl 4 (by decide) (X.2.2.2.2 (.fieldLink RX6 43 "TestHall$TextReader" "fault" "I") (by decide +kernel)) rfl rfl (by decide +kernel) rfl rfl (Nat.le_of_ble_eq_true rfl) rfl dX6_readLine_24 (fun H locs hw => ?_)
      obtain ⟨M_3, eM_3⟩ : ∃ y : Sg, y = sI M_1 21 (5 : Int32) := ⟨_, rfl⟩
      rw [← eM_3] at hw
      have h := h M_3 eM_3
      refine lv_iconst (v := (0 : Int32)) X.1 X.2.1 dX6_readLine_27 (by decide) ?_
      exact r_zret X hr hlk hw rfl h dX6_readLine_28

theorem inX6_addToken_X6 : ∀ w ∈ wsX60, w ∈ wsX6_addToken := fun w h => List.mem_cons_of_mem _ (List.mem_append_right _ h)
abbrev rmX6_addToken : Room := { frames := 0, cells := 0, slots := 0, locals := 0 }
def wX6_addToken (n : Nat) (M : Sg) (a1 : Int32) (a2 : Int32) (Q : Sg → Prop) : Prop := (((601 : Int32) ≤ (gI M 19) → (Q M)) ∧ (¬ (601 : Int32) ≤ (gI M 19) → (vp_in (gI M 19) 601 ∧ (∀ (M_1 : Sg), M_1 = sA M 17 (gI M 19).toNatClampNeg a1 → (vp_in (gI M_1 19) 601 ∧ (∀ (M_2 : Sg), M_2 = sA M_1 18 (gI M_1 19).toNatClampNeg a2 → (∀ (M_3 : Sg), M_3 = sI M_2 19 ((gI M_2 19) + (1 : Int32)) → (Q M_3))))))))
set_option maxHeartbeats 4000000 in
set_option maxRecDepth 100000 in
theorem kX6_addToken {l : Launch} {D : va_G} {κ : Nat → ClassId} {η : Nat → Nat} {σ : (Nat → Nat) × (Nat → Nat)} {n : Nat} {M : Sg} {a1 : Int32} {a2 : Int32} {Q : Sg → Prop} (h : wX6_addToken n M a1 a2 Q) : Kv (cN σ) D (Ky κ) (cw κ η n) l yX6_addToken wsX6_addToken rmX6_addToken [.ref (η 4), .int a1, .int a2] M Q := by
  refine ofW_g (Qc := fun A => Qv D (Ky κ) (cw κ η n) A Q) (cc := cX6_addToken) (maxL := 3) (ret := none) (by decide) rfl (Nat.le_of_ble_eq_true rfl) ?_
  intro p e s m args below meth c A ls X hr hlk hw hl
  have hl : lv_has ls 3 [(0, .ref (η 4)), (1, .int a1), (2, .int a2)] := hl
  refine lv_aload_n X.1 X.2.1 dX6_addToken_0 rfl (lv_at hl 0 rfl) ?_
  refine r_gf X inX6_addToken_X6 hw 4 rfl rfl 2 (by decide) (X.2.2.2.2 (.fieldLink RX6 59 "TestHall$TextReader" "size" "I") (by decide +kernel)) rfl rfl dX6_addToken_1 ?_
  refine lv_sipush (v := (601 : Int32)) X.1 X.2.1 dX6_addToken_4 (by decide) ?_
  obtain ⟨ht_, hf_⟩ := h
  refine lv_icmp_ge (tgt := 40) X.1 X.2.1 dX6_addToken_7 (by decide) (fun c_ => ?_) (fun c_ => ?_)
  · have h := ht_ c_
    exact r_vret X hr hlk hw h dX6_addToken_40
  · have h := hf_ c_
    refine lv_aload_n X.1 X.2.1 dX6_addToken_10 rfl (lv_at hl 0 rfl) ?_
    refine r_gf X inX6_addToken_X6 hw 4 rfl rfl 0 (by decide) (X.2.2.2.2 (.fieldLink RX6 11 "TestHall$TextReader" "tokens" "[I") (by decide +kernel)) rfl rfl dX6_addToken_11 ?_
    refine lv_aload_n X.1 X.2.1 dX6_addToken_14 rfl (lv_at hl 0 rfl) ?_
    refine r_gf X inX6_addToken_X6 hw 4 rfl rfl 2 (by decide) (X.2.2.2.2 (.fieldLink RX6 59 "TestHall$TextReader" "size" "I") (by decide +kernel)) rfl rfl dX6_addToken_15 ?_
    refine lv_iload_n X.1 X.2.1 dX6_addToken_18 rfl (lv_at hl 1 rfl) ?_
    obtain ⟨hi_, h⟩ := h
    refine r_ias (w' := cw κ η n (sA M 17 (gI M 19).toNatClampNeg a1)) X hw 26 0 rfl rfl hi_ rfl dX6_addToken_19 (fun H locs hw => ?_)
    obtain ⟨M_1, eM_1⟩ : ∃ y : Sg, y = sA M 17 (gI M 19).toNatClampNeg a1 := ⟨_, rfl⟩
    rw [← eM_1] at hw
    have h := h M_1 eM_1
    refine lv_aload_n X.1 X.2.1 dX6_addToken_20 rfl (lv_at hl 0 rfl) ?_
    refine r_gf X inX6_addToken_X6 hw 4 rfl rfl 1 (by decide) (X.2.2.2.2 (.fieldLink RX6 15 "TestHall$TextReader" "places" "[I") (by decide +kernel)) rfl rfl dX6_addToken_21 ?_
    refine lv_aload_n X.1 X.2.1 dX6_addToken_24 rfl (lv_at hl 0 rfl) ?_
    refine r_gf X inX6_addToken_X6 hw 4 rfl rfl 2 (by decide) (X.2.2.2.2 (.fieldLink RX6 59 "TestHall$TextReader" "size" "I") (by decide +kernel)) rfl rfl dX6_addToken_25 ?_
    refine lv_iload_n X.1 X.2.1 dX6_addToken_28 rfl (lv_at hl 2 rfl) ?_
    obtain ⟨hi_, h⟩ := h
    refine r_ias (w' := cw κ η n (sA M_1 18 (gI M_1 19).toNatClampNeg a2)) X hw 27 0 rfl rfl hi_ rfl dX6_addToken_29 (fun H locs hw => ?_)
    obtain ⟨M_2, eM_2⟩ : ∃ y : Sg, y = sA M_1 18 (gI M_1 19).toNatClampNeg a2 := ⟨_, rfl⟩
    rw [← eM_2] at hw
    have h := h M_2 eM_2
    refine lv_aload_n X.1 X.2.1 dX6_addToken_30 rfl (lv_at hl 0 rfl) ?_
    refine lv_dup X.1 X.2.1 dX6_addToken_31 rfl ?_
    refine r_gf X inX6_addToken_X6 hw 4 rfl rfl 2 (by decide) (X.2.2.2.2 (.fieldLink RX6 59 "TestHall$TextReader" "size" "I") (by decide +kernel)) rfl rfl dX6_addToken_32 ?_
    refine lv_iconst (v := (1 : Int32)) X.1 X.2.1 dX6_addToken_35 (by decide) ?_
    refine lv_iadd X.1 X.2.1 dX6_addToken_36 ?_
    refine r_pf (ty := .int) (w' := cw κ η n (sI M_2 19 ((gI M_2 19) + (1 : Int32)))) X inX6_addToken_X6 tyX6_ok nmX6 hw 4 rfl rfl 2 (by decide) (X.2.2.2.2 (.fieldLink RX6 59 "TestHall$TextReader" "size" "I") (by decide +kernel)) rfl rfl (by decide +kernel) rfl rfl (Nat.le_of_ble_eq_true rfl) rfl dX6_addToken_37 (fun H locs hw => ?_)
    obtain ⟨M_3, eM_3⟩ : ∃ y : Sg, y = sI M_2 19 ((gI M_2 19) + (1 : Int32)) := ⟨_, rfl⟩
    rw [← eM_3] at hw
    have h := h M_3 eM_3
    exact r_vret X hr hlk hw h dX6_addToken_40

abbrev rmX6_isDigit : Room := { frames := 0, cells := 0, slots := 0, locals := 0 }
def wX6_isDigit (n : Nat) (M : Sg) (a0 : Int32) (Q : Sg → Int32 → Prop) : Prop := ((a0 < (48 : Int32) → (Q M (0 : Int32))) ∧ (¬ a0 < (48 : Int32) → (((57 : Int32) < a0 → (Q M (0 : Int32))) ∧ (¬ (57 : Int32) < a0 → (Q M (1 : Int32))))))
set_option maxHeartbeats 4000000 in
set_option maxRecDepth 100000 in
theorem kX6_isDigit {l : Launch} {D : va_G} {κ : Nat → ClassId} {η : Nat → Nat} {σ : (Nat → Nat) × (Nat → Nat)} {n : Nat} {M : Sg} {a0 : Int32} {Q : Sg → Int32 → Prop} (h : wX6_isDigit n M a0 Q) : Ki (cN σ) D (Ky κ) (cw κ η n) l yX6_isDigit wsX6_isDigit rmX6_isDigit [.int a0] M Q := by
  refine ofW_g (Qc := fun A => Qi D (Ky κ) (cw κ η n) A Q) (cc := cX6_isDigit) (maxL := 1) (ret := (some .boolean)) (by decide) rfl (Nat.le_of_ble_eq_true rfl) ?_
  intro p e s m args below meth c A ls X hr hlk hw hl
  have hl : lv_has ls 1 [(0, .int a0)] := hl
  refine lv_iload_n X.1 X.2.1 dX6_isDigit_0 rfl (lv_at hl 0 rfl) ?_
  refine lv_bipush (v := (48 : Int32)) X.1 X.2.1 dX6_isDigit_1 (by decide) ?_
  obtain ⟨ht_, hf_⟩ := h
  refine lv_icmp_lt (tgt := 16) X.1 X.2.1 dX6_isDigit_3 (by decide) (fun c_ => ?_) (fun c_ => ?_)
  · have h := ht_ c_
    refine lv_iconst (v := (0 : Int32)) X.1 X.2.1 dX6_isDigit_16 (by decide) ?_
    exact r_zret X hr hlk hw rfl h dX6_isDigit_17
  · have h := hf_ c_
    refine lv_iload_n X.1 X.2.1 dX6_isDigit_6 rfl (lv_at hl 0 rfl) ?_
    refine lv_bipush (v := (57 : Int32)) X.1 X.2.1 dX6_isDigit_7 (by decide) ?_
    obtain ⟨ht_, hf_⟩ := h
    refine lv_icmp_gt (tgt := 16) X.1 X.2.1 dX6_isDigit_9 (by decide) (fun c_ => ?_) (fun c_ => ?_)
    · have h := ht_ c_
      refine lv_iconst (v := (0 : Int32)) X.1 X.2.1 dX6_isDigit_16 (by decide) ?_
      exact r_zret X hr hlk hw rfl h dX6_isDigit_17
    · have h := hf_ c_
      refine lv_iconst (v := (1 : Int32)) X.1 X.2.1 dX6_isDigit_12 (by decide) ?_
      refine lv_goto (tgt := 17) X.1 X.2.1 dX6_isDigit_13 (by decide) ?_
      exact r_zret X hr hlk hw rfl h dX6_isDigit_17

abbrev rmX6_isLetter : Room := { frames := 0, cells := 0, slots := 0, locals := 0 }
def wX6_isLetter (n : Nat) (M : Sg) (a0 : Int32) (Q : Sg → Int32 → Prop) : Prop := ((a0 < (97 : Int32) → (Q M (0 : Int32))) ∧ (¬ a0 < (97 : Int32) → (((122 : Int32) < a0 → (Q M (0 : Int32))) ∧ (¬ (122 : Int32) < a0 → (Q M (1 : Int32))))))
set_option maxHeartbeats 4000000 in
set_option maxRecDepth 100000 in
theorem kX6_isLetter {l : Launch} {D : va_G} {κ : Nat → ClassId} {η : Nat → Nat} {σ : (Nat → Nat) × (Nat → Nat)} {n : Nat} {M : Sg} {a0 : Int32} {Q : Sg → Int32 → Prop} (h : wX6_isLetter n M a0 Q) : Ki (cN σ) D (Ky κ) (cw κ η n) l yX6_isLetter wsX6_isLetter rmX6_isLetter [.int a0] M Q := by
  refine ofW_g (Qc := fun A => Qi D (Ky κ) (cw κ η n) A Q) (cc := cX6_isLetter) (maxL := 1) (ret := (some .boolean)) (by decide) rfl (Nat.le_of_ble_eq_true rfl) ?_
  intro p e s m args below meth c A ls X hr hlk hw hl
  have hl : lv_has ls 1 [(0, .int a0)] := hl
  refine lv_iload_n X.1 X.2.1 dX6_isLetter_0 rfl (lv_at hl 0 rfl) ?_
  refine lv_bipush (v := (97 : Int32)) X.1 X.2.1 dX6_isLetter_1 (by decide) ?_
  obtain ⟨ht_, hf_⟩ := h
  refine lv_icmp_lt (tgt := 16) X.1 X.2.1 dX6_isLetter_3 (by decide) (fun c_ => ?_) (fun c_ => ?_)
  · have h := ht_ c_
    refine lv_iconst (v := (0 : Int32)) X.1 X.2.1 dX6_isLetter_16 (by decide) ?_
    exact r_zret X hr hlk hw rfl h dX6_isLetter_17
  · have h := hf_ c_
    refine lv_iload_n X.1 X.2.1 dX6_isLetter_6 rfl (lv_at hl 0 rfl) ?_
    refine lv_bipush (v := (122 : Int32)) X.1 X.2.1 dX6_isLetter_7 (by decide) ?_
    obtain ⟨ht_, hf_⟩ := h
    refine lv_icmp_gt (tgt := 16) X.1 X.2.1 dX6_isLetter_9 (by decide) (fun c_ => ?_) (fun c_ => ?_)
    · have h := ht_ c_
      refine lv_iconst (v := (0 : Int32)) X.1 X.2.1 dX6_isLetter_16 (by decide) ?_
      exact r_zret X hr hlk hw rfl h dX6_isLetter_17
    · have h := hf_ c_
      refine lv_iconst (v := (1 : Int32)) X.1 X.2.1 dX6_isLetter_12 (by decide) ?_
      refine lv_goto (tgt := 17) X.1 X.2.1 dX6_isLetter_13 (by decide) ?_
      exact r_zret X hr hlk hw rfl h dX6_isLetter_17

theorem inX6_endOf_X6 : ∀ w ∈ wsX60, w ∈ wsX6_endOf := fun w h => List.mem_cons_of_mem _ (List.mem_append_right _ h)
abbrev rmX6_endOf : Room := { frames := 1, cells := 0, slots := 0, locals := 20 }
def vX6_endOf_68 (n : Nat) (K25 : Sg → Int32 → Int32 → Int32 → Prop) (Q : Sg → Int32 → Prop) (M : Sg) (x2 : Int32) (x3 : Int32) (x4 : Int32) : Prop := (∀ (x_1 : Int32), x_1 = x4 + (1 : Int32) → (K25 M x2 x3 x_1))
set_option maxHeartbeats 4000000 in
set_option maxRecDepth 100000 in
theorem bX6_endOf_68 {p : Program} {l : Launch} {e : Env} {s : State} {m : MethodId} {args : Array Value} {below : List Frame} {meth : Method} {c : Code} {D : va_G} {κ : Nat → ClassId} {η : Nat → Nat} {σ : (Nat → Nat) × (Nat → Nat)} {A : Nat → Prop} {n : Nat} {Q : Sg → Int32 → Prop} {K25 : Sg → Int32 → Int32 → Int32 → Prop} (X : CallFix p m c cX6_endOf 5 s args wsX6_endOf RX6) (hr : meth.sig.returnType = (some .int)) (hlk : meth.locks = false) (hK25 : ∀ (M : Sg) (x2 : Int32) (x3 : Int32) (x4 : Int32) (H : Heap) (locs : List Loc) (ls : Array Slot), K25 M x2 x3 x4 → Wd (cN σ) D (Ky κ) A s (cw κ η n M) H locs → lv_has ls 5 [(0, .ref (η 4)), (2, .int x2), (3, .int x3), (4, .int x4)] → W p l e rmX6_endOf s m args below meth c H locs 0 0 (MQ below (Qi D (Ky κ) (cw κ η n) A Q) args s 0 0 A) (F0 m 25 ls [])) : ∀ (M : Sg) (x2 : Int32) (x3 : Int32) (x4 : Int32) (H : Heap) (locs : List Loc) (ls : Array Slot), vX6_endOf_68 n K25 Q M x2 x3 x4 → Wd (cN σ) D (Ky κ) A s (cw κ η n M) H locs → lv_has ls 5 [(0, .ref (η 4)), (2, .int x2), (3, .int x3), (4, .int x4)] → W p l e rmX6_endOf s m args below meth c H locs 0 0 (MQ below (Qi D (Ky κ) (cw κ η n) A Q) args s 0 0 A) (F0 m 68 ls []) := by
  intro M x2 x3 x4 H locs ls h hw hl
  obtain ⟨x_1, ex_1⟩ : ∃ y : Int32, y = x4 + (1 : Int32) := ⟨_, rfl⟩
  have h := h x_1 ex_1
  refine lv_iinc (v := x_1) (lv' := [(4, .int x_1), (0, .ref (η 4)), (2, .int x2), (3, .int x3)]) X.1 X.2.1 dX6_endOf_68 hl (k := 3) rfl (by rw [ex_1]; rfl) (by decide) rfl (fun ls hl => ?_)
  refine lv_goto (tgt := 25) X.1 X.2.1 dX6_endOf_71 (by decide) ?_
  exact hK25 M x2 x3 x_1 _ _ _ h hw (lv_sub hl [1, 2, 3, 0] rfl)
def vX6_endOf_51 (n : Nat) (K25 : Sg → Int32 → Int32 → Int32 → Prop) (Q : Sg → Int32 → Prop) (M : Sg) (x2 : Int32) (x3 : Int32) (x4 : Int32) : Prop := ((x3 = 0 → (Q M x4)) ∧ (¬ x3 = 0 → (gI M 25 = 1 ∧ (vp_in x4 600 ∧ (wX6_isDigit n M (gA M 8 x4.toNatClampNeg) (fun M_1 r_2 => ((r_2 = 0 → (Q M_1 x4)) ∧ (¬ r_2 = 0 → (vX6_endOf_68 n K25 Q M_1 x2 x3 x4)))))))))
set_option maxHeartbeats 4000000 in
set_option maxRecDepth 100000 in
theorem bX6_endOf_51 {p : Program} {l : Launch} {e : Env} {s : State} {m : MethodId} {args : Array Value} {below : List Frame} {meth : Method} {c : Code} {D : va_G} {κ : Nat → ClassId} {η : Nat → Nat} {σ : (Nat → Nat) × (Nat → Nat)} {A : Nat → Prop} {n : Nat} {Q : Sg → Int32 → Prop} {K25 : Sg → Int32 → Int32 → Int32 → Prop} (X : CallFix p m c cX6_endOf 5 s args wsX6_endOf RX6) (hr : meth.sig.returnType = (some .int)) (hlk : meth.locks = false) (hK25 : ∀ (M : Sg) (x2 : Int32) (x3 : Int32) (x4 : Int32) (H : Heap) (locs : List Loc) (ls : Array Slot), K25 M x2 x3 x4 → Wd (cN σ) D (Ky κ) A s (cw κ η n M) H locs → lv_has ls 5 [(0, .ref (η 4)), (2, .int x2), (3, .int x3), (4, .int x4)] → W p l e rmX6_endOf s m args below meth c H locs 0 0 (MQ below (Qi D (Ky κ) (cw κ η n) A Q) args s 0 0 A) (F0 m 25 ls [])) : ∀ (M : Sg) (x2 : Int32) (x3 : Int32) (x4 : Int32) (H : Heap) (locs : List Loc) (ls : Array Slot), vX6_endOf_51 n K25 Q M x2 x3 x4 → Wd (cN σ) D (Ky κ) A s (cw κ η n M) H locs → lv_has ls 5 [(0, .ref (η 4)), (2, .int x2), (3, .int x3), (4, .int x4)] → W p l e rmX6_endOf s m args below meth c H locs 0 0 (MQ below (Qi D (Ky κ) (cw κ η n) A Q) args s 0 0 A) (F0 m 51 ls []) := by
  intro M x2 x3 x4 H locs ls h hw hl
  refine lv_iload_n X.1 X.2.1 dX6_endOf_51 rfl (lv_at hl 2 rfl) ?_
  obtain ⟨ht_, hf_⟩ := h
  refine lv_if_eq (tgt := 74) X.1 X.2.1 dX6_endOf_52 (by decide) (fun c_ => ?_) (fun c_ => ?_)
  · have h := ht_ c_
    refine lv_iload X.1 X.2.1 dX6_endOf_74 (lv_at hl 3 rfl) ?_
    exact r_ret X hr hlk hw h dX6_endOf_76
  · have h := hf_ c_
    refine lv_aload_n X.1 X.2.1 dX6_endOf_55 rfl (lv_at hl 0 rfl) ?_
    obtain ⟨hg_, h⟩ := h
    refine r_gf X inX6_endOf_X6 hw 4 rfl rfl 5 (by decide) (X.2.2.2.2 (.fieldLink RX6 22 "TestHall$TextReader" "signs" "[C") (by decide +kernel)) rfl (rd_signs hg_) dX6_endOf_56 ?_
    refine lv_iload X.1 X.2.1 dX6_endOf_59 (lv_at hl 3 rfl) ?_
    obtain ⟨hi_, h⟩ := h
    refine r_cal X hw 17 2 rfl rfl hi_ dX6_endOf_61 ?_
    refine r_Si (As := [.int (gA M 8 x4.toNatClampNeg)]) (rest := []) X cN_ok (kX6_isDigit h) (va_cwS 1 X.2.2.2.2 gX6_endOf_X6_isDigit rfl rfl rfl (by decide +kernel) ⟨Nat.le_of_ble_eq_true rfl, Nat.le_of_ble_eq_true rfl⟩) hw rfl hl.1 rfl (Nat.le_of_ble_eq_true rfl) dX6_endOf_62 (fun r_2 M_1 H locs h hw => ?_)
    obtain ⟨ht_, hf_⟩ := h
    refine lv_if_eq (tgt := 74) X.1 X.2.1 dX6_endOf_65 (by decide) (fun c_ => ?_) (fun c_ => ?_)
    · have h := ht_ c_
      refine lv_iload X.1 X.2.1 dX6_endOf_74 (lv_at hl 3 rfl) ?_
      exact r_ret X hr hlk hw h dX6_endOf_76
    · have h := hf_ c_
      exact bX6_endOf_68 X hr hlk hK25 M_1 x2 x3 x4 _ _ _ h hw (lv_sub hl [0, 1, 2, 3] rfl)
def vX6_endOf_25 (n : Nat) (Q : Sg → Int32 → Prop) : Nat → Sg → Int32 → Int32 → Int32 → Prop
  | 0, _, _, _, _ => False
  | f25_ + 1, M, x2, x3, x4 => (((gI M 22) ≤ x4 → (Q M x4)) ∧ (¬ (gI M 22) ≤ x4 → ((x2 = 0 → (vX6_endOf_51 n (vX6_endOf_25 n Q f25_) Q M x2 x3 x4)) ∧ (¬ x2 = 0 → (gI M 25 = 1 ∧ (vp_in x4 600 ∧ (wX6_isLetter n M (gA M 8 x4.toNatClampNeg) (fun M_1 r_2 => ((¬ r_2 = 0 → (vX6_endOf_68 n (vX6_endOf_25 n Q f25_) Q M_1 x2 x3 x4)) ∧ (r_2 = 0 → (vX6_endOf_51 n (vX6_endOf_25 n Q f25_) Q M_1 x2 x3 x4)))))))))))
set_option maxHeartbeats 4000000 in
set_option maxRecDepth 100000 in
theorem bX6_endOf_25 {p : Program} {l : Launch} {e : Env} {s : State} {m : MethodId} {args : Array Value} {below : List Frame} {meth : Method} {c : Code} {D : va_G} {κ : Nat → ClassId} {η : Nat → Nat} {σ : (Nat → Nat) × (Nat → Nat)} {A : Nat → Prop} {n : Nat} {Q : Sg → Int32 → Prop} (X : CallFix p m c cX6_endOf 5 s args wsX6_endOf RX6) (hr : meth.sig.returnType = (some .int)) (hlk : meth.locks = false) : ∀ (f_ : Nat) (M : Sg) (x2 : Int32) (x3 : Int32) (x4 : Int32) (H : Heap) (locs : List Loc) (ls : Array Slot), vX6_endOf_25 n Q f_ M x2 x3 x4 → Wd (cN σ) D (Ky κ) A s (cw κ η n M) H locs → lv_has ls 5 [(0, .ref (η 4)), (2, .int x2), (3, .int x3), (4, .int x4)] → W p l e rmX6_endOf s m args below meth c H locs 0 0 (MQ below (Qi D (Ky κ) (cw κ η n) A Q) args s 0 0 A) (F0 m 25 ls []) := by
  intro f_
  induction f_ with
  | zero => intro M x2 x3 x4 H locs ls h; exact h.elim
  | succ f_ hK25 =>
    intro M x2 x3 x4 H locs ls h hw hl
    refine lv_iload X.1 X.2.1 dX6_endOf_25 (lv_at hl 3 rfl) ?_
    refine lv_aload_n X.1 X.2.1 dX6_endOf_27 rfl (lv_at hl 0 rfl) ?_
    refine r_gf X inX6_endOf_X6 hw 4 rfl rfl 6 (by decide) (X.2.2.2.2 (.fieldLink RX6 27 "TestHall$TextReader" "length" "I") (by decide +kernel)) rfl rfl dX6_endOf_28 ?_
    obtain ⟨ht_, hf_⟩ := h
    refine lv_icmp_ge (tgt := 74) X.1 X.2.1 dX6_endOf_31 (by decide) (fun c_ => ?_) (fun c_ => ?_)
    · have h := ht_ c_
      refine lv_iload X.1 X.2.1 dX6_endOf_74 (lv_at hl 3 rfl) ?_
      exact r_ret X hr hlk hw h dX6_endOf_76
    · have h := hf_ c_
      refine lv_iload_n X.1 X.2.1 dX6_endOf_34 rfl (lv_at hl 1 rfl) ?_
      obtain ⟨ht_, hf_⟩ := h
      refine lv_if_eq (tgt := 51) X.1 X.2.1 dX6_endOf_35 (by decide) (fun c_ => ?_) (fun c_ => ?_)
      · have h := ht_ c_
        exact bX6_endOf_51 X hr hlk hK25 M x2 x3 x4 _ _ _ h hw (lv_sub hl [0, 1, 2, 3] rfl)
      · have h := hf_ c_
        refine lv_aload_n X.1 X.2.1 dX6_endOf_38 rfl (lv_at hl 0 rfl) ?_
        obtain ⟨hg_, h⟩ := h
        refine r_gf X inX6_endOf_X6 hw 4 rfl rfl 5 (by decide) (X.2.2.2.2 (.fieldLink RX6 22 "TestHall$TextReader" "signs" "[C") (by decide +kernel)) rfl (rd_signs hg_) dX6_endOf_39 ?_
        refine lv_iload X.1 X.2.1 dX6_endOf_42 (lv_at hl 3 rfl) ?_
        obtain ⟨hi_, h⟩ := h
        refine r_cal X hw 17 2 rfl rfl hi_ dX6_endOf_44 ?_
        refine r_Si (As := [.int (gA M 8 x4.toNatClampNeg)]) (rest := []) X cN_ok (kX6_isLetter h) (va_cwS 1 X.2.2.2.2 gX6_endOf_X6_isLetter rfl rfl rfl (by decide +kernel) ⟨Nat.le_of_ble_eq_true rfl, Nat.le_of_ble_eq_true rfl⟩) hw rfl hl.1 rfl (Nat.le_of_ble_eq_true rfl) dX6_endOf_45 (fun r_2 M_1 H locs h hw => ?_)
        obtain ⟨ht_, hf_⟩ := h
        refine lv_if_ne (tgt := 68) X.1 X.2.1 dX6_endOf_48 (by decide) (fun c_ => ?_) (fun c_ => ?_)
        · have h := ht_ c_
          exact bX6_endOf_68 X hr hlk hK25 M_1 x2 x3 x4 _ _ _ h hw (lv_sub hl [0, 1, 2, 3] rfl)
        · have h := hf_ c_
          exact bX6_endOf_51 X hr hlk hK25 M_1 x2 x3 x4 _ _ _ h hw (lv_sub hl [0, 1, 2, 3] rfl)
def wX6_endOf (n : Nat) (M : Sg) (a1 : Int32) (Q : Sg → Int32 → Prop) : Prop := (gI M 25 = 1 ∧ (vp_in a1 600 ∧ (wX6_isLetter n M (gA M 8 a1.toNatClampNeg) (fun M_1 r_2 => (gI M_1 25 = 1 ∧ (vp_in a1 600 ∧ (wX6_isDigit n M_1 (gA M_1 8 a1.toNatClampNeg) (fun M_3 r_4 => (∀ (x_5 : Int32), x_5 = (a1 + (1 : Int32)) → (∃ g25_ : Nat, vX6_endOf_25 n Q g25_ M_3 r_2 r_4 x_5))))))))))
set_option maxHeartbeats 4000000 in
set_option maxRecDepth 100000 in
theorem kX6_endOf {l : Launch} {D : va_G} {κ : Nat → ClassId} {η : Nat → Nat} {σ : (Nat → Nat) × (Nat → Nat)} {n : Nat} {M : Sg} {a1 : Int32} {Q : Sg → Int32 → Prop} (h : wX6_endOf n M a1 Q) : Ki (cN σ) D (Ky κ) (cw κ η n) l yX6_endOf wsX6_endOf rmX6_endOf [.ref (η 4), .int a1] M Q := by
  refine ofW_g (Qc := fun A => Qi D (Ky κ) (cw κ η n) A Q) (cc := cX6_endOf) (maxL := 5) (ret := (some .int)) (by decide) rfl (Nat.le_of_ble_eq_true rfl) ?_
  intro p e s m args below meth c A ls X hr hlk hw hl
  have hl : lv_has ls 5 [(0, .ref (η 4)), (1, .int a1)] := hl
  refine lv_aload_n X.1 X.2.1 dX6_endOf_0 rfl (lv_at hl 0 rfl) ?_
  obtain ⟨hg_, h⟩ := h
  refine r_gf X inX6_endOf_X6 hw 4 rfl rfl 5 (by decide) (X.2.2.2.2 (.fieldLink RX6 22 "TestHall$TextReader" "signs" "[C") (by decide +kernel)) rfl (rd_signs hg_) dX6_endOf_1 ?_
  refine lv_iload_n X.1 X.2.1 dX6_endOf_4 rfl (lv_at hl 1 rfl) ?_
  obtain ⟨hi_, h⟩ := h
  refine r_cal X hw 17 2 rfl rfl hi_ dX6_endOf_5 ?_
  refine r_Si (As := [.int (gA M 8 a1.toNatClampNeg)]) (rest := []) X cN_ok (kX6_isLetter h) (va_cwS 1 X.2.2.2.2 gX6_endOf_X6_isLetter rfl rfl rfl (by decide +kernel) ⟨Nat.le_of_ble_eq_true rfl, Nat.le_of_ble_eq_true rfl⟩) hw rfl hl.1 rfl (Nat.le_of_ble_eq_true rfl) dX6_endOf_6 (fun r_2 M_1 H locs h hw => ?_)
  refine lv_istore_n (lv' := [(2, .int r_2), (0, .ref (η 4)), (1, .int a1)]) X.1 X.2.1 dX6_endOf_9 rfl hl (by decide) rfl (fun ls hl => ?_)
  refine lv_aload_n X.1 X.2.1 dX6_endOf_10 rfl (lv_at hl 1 rfl) ?_
  obtain ⟨hg_, h⟩ := h
  refine r_gf X inX6_endOf_X6 hw 4 rfl rfl 5 (by decide) (X.2.2.2.2 (.fieldLink RX6 22 "TestHall$TextReader" "signs" "[C") (by decide +kernel)) rfl (rd_signs hg_) dX6_endOf_11 ?_
  refine lv_iload_n X.1 X.2.1 dX6_endOf_14 rfl (lv_at hl 2 rfl) ?_
  obtain ⟨hi_, h⟩ := h
  refine r_cal X hw 17 2 rfl rfl hi_ dX6_endOf_15 ?_
  refine r_Si (As := [.int (gA M_1 8 a1.toNatClampNeg)]) (rest := []) X cN_ok (kX6_isDigit h) (va_cwS 1 X.2.2.2.2 gX6_endOf_X6_isDigit rfl rfl rfl (by decide +kernel) ⟨Nat.le_of_ble_eq_true rfl, Nat.le_of_ble_eq_true rfl⟩) hw rfl hl.1 rfl (Nat.le_of_ble_eq_true rfl) dX6_endOf_16 (fun r_4 M_3 H locs h hw => ?_)
  refine lv_istore_n (lv' := [(3, .int r_4), (2, .int r_2), (0, .ref (η 4)), (1, .int a1)]) X.1 X.2.1 dX6_endOf_19 rfl hl (by decide) rfl (fun ls hl => ?_)
  refine lv_iload_n X.1 X.2.1 dX6_endOf_20 rfl (lv_at hl 3 rfl) ?_
  refine lv_iconst (v := (1 : Int32)) X.1 X.2.1 dX6_endOf_21 (by decide) ?_
  refine lv_iadd X.1 X.2.1 dX6_endOf_22 ?_
  refine lv_topi (fun x_5 ex_5 => ?_)
  have h := h x_5 ex_5
  refine lv_istore (lv' := [(4, .int x_5), (3, .int r_4), (2, .int r_2), (0, .ref (η 4)), (1, .int a1)]) X.1 X.2.1 dX6_endOf_23 hl (by decide) rfl (fun ls hl => ?_)
  obtain ⟨f_, h⟩ := h
  exact bX6_endOf_25 X hr hlk f_ M_3 r_2 r_4 x_5 _ _ _ h hw (lv_sub hl [3, 2, 1, 0] rfl)

abbrev rmX6_isBlank : Room := { frames := 0, cells := 0, slots := 0, locals := 0 }
def wX6_isBlank (n : Nat) (M : Sg) (a0 : Int32) (Q : Sg → Int32 → Prop) : Prop := ((a0 = (10 : Int32) → (Q M (1 : Int32))) ∧ (¬ a0 = (10 : Int32) → ((¬ a0 = (32 : Int32) → (Q M (0 : Int32))) ∧ (a0 = (32 : Int32) → (Q M (1 : Int32))))))
set_option maxHeartbeats 4000000 in
set_option maxRecDepth 100000 in
theorem kX6_isBlank {l : Launch} {D : va_G} {κ : Nat → ClassId} {η : Nat → Nat} {σ : (Nat → Nat) × (Nat → Nat)} {n : Nat} {M : Sg} {a0 : Int32} {Q : Sg → Int32 → Prop} (h : wX6_isBlank n M a0 Q) : Ki (cN σ) D (Ky κ) (cw κ η n) l yX6_isBlank wsX6_isBlank rmX6_isBlank [.int a0] M Q := by
  refine ofW_g (Qc := fun A => Qi D (Ky κ) (cw κ η n) A Q) (cc := cX6_isBlank) (maxL := 1) (ret := (some .boolean)) (by decide) rfl (Nat.le_of_ble_eq_true rfl) ?_
  intro p e s m args below meth c A ls X hr hlk hw hl
  have hl : lv_has ls 1 [(0, .int a0)] := hl
  refine lv_iload_n X.1 X.2.1 dX6_isBlank_0 rfl (lv_at hl 0 rfl) ?_
  refine lv_bipush (v := (10 : Int32)) X.1 X.2.1 dX6_isBlank_1 (by decide) ?_
  obtain ⟨ht_, hf_⟩ := h
  refine lv_icmp_eq (tgt := 12) X.1 X.2.1 dX6_isBlank_3 (by decide) (fun c_ => ?_) (fun c_ => ?_)
  · have h := ht_ c_
    refine lv_iconst (v := (1 : Int32)) X.1 X.2.1 dX6_isBlank_12 (by decide) ?_
    refine lv_goto (tgt := 17) X.1 X.2.1 dX6_isBlank_13 (by decide) ?_
    exact r_zret X hr hlk hw rfl h dX6_isBlank_17
  · have h := hf_ c_
    refine lv_iload_n X.1 X.2.1 dX6_isBlank_6 rfl (lv_at hl 0 rfl) ?_
    refine lv_bipush (v := (32 : Int32)) X.1 X.2.1 dX6_isBlank_7 (by decide) ?_
    obtain ⟨ht_, hf_⟩ := h
    refine lv_icmp_ne (tgt := 16) X.1 X.2.1 dX6_isBlank_9 (by decide) (fun c_ => ?_) (fun c_ => ?_)
    · have h := ht_ c_
      refine lv_iconst (v := (0 : Int32)) X.1 X.2.1 dX6_isBlank_16 (by decide) ?_
      exact r_zret X hr hlk hw rfl h dX6_isBlank_17
    · have h := hf_ c_
      refine lv_iconst (v := (1 : Int32)) X.1 X.2.1 dX6_isBlank_12 (by decide) ?_
      refine lv_goto (tgt := 17) X.1 X.2.1 dX6_isBlank_13 (by decide) ?_
      exact r_zret X hr hlk hw rfl h dX6_isBlank_17

theorem inX6_numberOf_X6 : ∀ w ∈ wsX60, w ∈ wsX6_numberOf := fun w h => List.mem_cons_of_mem _ (List.mem_append_right _ h)
abbrev rmX6_numberOf : Room := { frames := 0, cells := 0, slots := 0, locals := 0 }
def vX6_numberOf_16 (n : Nat) (Q : Sg → Int32 → Prop) : Nat → Sg → Int32 → Int32 → Int32 → Prop
  | 0, _, _, _, _ => False
  | f16_ + 1, M, x2, x3, x4 => ((x2 ≤ x4 → (Q M x3)) ∧ (¬ x2 ≤ x4 → (gI M 25 = 1 ∧ (vp_in x4 600 ∧ (∀ (x_1 : Int32), x_1 = ((((10 : Int32) * x3) + (gA M 8 x4.toNatClampNeg)) - (48 : Int32)) → (∀ (x_2 : Int32), x_2 = x4 + (1 : Int32) → (vX6_numberOf_16 n Q f16_ M x2 x_1 x_2)))))))
set_option maxHeartbeats 4000000 in
set_option maxRecDepth 100000 in
theorem bX6_numberOf_16 {p : Program} {l : Launch} {e : Env} {s : State} {m : MethodId} {args : Array Value} {below : List Frame} {meth : Method} {c : Code} {D : va_G} {κ : Nat → ClassId} {η : Nat → Nat} {σ : (Nat → Nat) × (Nat → Nat)} {A : Nat → Prop} {n : Nat} {Q : Sg → Int32 → Prop} (X : CallFix p m c cX6_numberOf 5 s args wsX6_numberOf RX6) (hr : meth.sig.returnType = (some .int)) (hlk : meth.locks = false) : ∀ (f_ : Nat) (M : Sg) (x2 : Int32) (x3 : Int32) (x4 : Int32) (H : Heap) (locs : List Loc) (ls : Array Slot), vX6_numberOf_16 n Q f_ M x2 x3 x4 → Wd (cN σ) D (Ky κ) A s (cw κ η n M) H locs → lv_has ls 5 [(0, .ref (η 4)), (2, .int x2), (3, .int x3), (4, .int x4)] → W p l e rmX6_numberOf s m args below meth c H locs 0 0 (MQ below (Qi D (Ky κ) (cw κ η n) A Q) args s 0 0 A) (F0 m 16 ls []) := by
  intro f_
  induction f_ with
  | zero => intro M x2 x3 x4 H locs ls h; exact h.elim
  | succ f_ hK16 =>
    intro M x2 x3 x4 H locs ls h hw hl
    refine lv_iload X.1 X.2.1 dX6_numberOf_16 (lv_at hl 3 rfl) ?_
    refine lv_iload_n X.1 X.2.1 dX6_numberOf_18 rfl (lv_at hl 1 rfl) ?_
    obtain ⟨ht_, hf_⟩ := h
    refine lv_icmp_ge (tgt := 44) X.1 X.2.1 dX6_numberOf_19 (by decide) (fun c_ => ?_) (fun c_ => ?_)
    · have h := ht_ c_
      refine lv_iload_n X.1 X.2.1 dX6_numberOf_44 rfl (lv_at hl 2 rfl) ?_
      exact r_ret X hr hlk hw h dX6_numberOf_45
    · have h := hf_ c_
      refine lv_bipush (v := (10 : Int32)) X.1 X.2.1 dX6_numberOf_22 (by decide) ?_
      refine lv_iload_n X.1 X.2.1 dX6_numberOf_24 rfl (lv_at hl 2 rfl) ?_
      refine lv_imul X.1 X.2.1 dX6_numberOf_25 ?_
      refine lv_aload_n X.1 X.2.1 dX6_numberOf_26 rfl (lv_at hl 0 rfl) ?_
      obtain ⟨hg_, h⟩ := h
      refine r_gf X inX6_numberOf_X6 hw 4 rfl rfl 5 (by decide) (X.2.2.2.2 (.fieldLink RX6 22 "TestHall$TextReader" "signs" "[C") (by decide +kernel)) rfl (rd_signs hg_) dX6_numberOf_27 ?_
      refine lv_iload X.1 X.2.1 dX6_numberOf_30 (lv_at hl 3 rfl) ?_
      obtain ⟨hi_, h⟩ := h
      refine r_cal X hw 17 2 rfl rfl hi_ dX6_numberOf_32 ?_
      refine lv_iadd X.1 X.2.1 dX6_numberOf_33 ?_
      refine lv_bipush (v := (48 : Int32)) X.1 X.2.1 dX6_numberOf_34 (by decide) ?_
      refine lv_isub X.1 X.2.1 dX6_numberOf_36 ?_
      refine lv_topi (fun x_1 ex_1 => ?_)
      have h := h x_1 ex_1
      refine lv_istore_n (lv' := [(3, .int x_1), (0, .ref (η 4)), (2, .int x2), (4, .int x4)]) X.1 X.2.1 dX6_numberOf_37 rfl hl (by decide) rfl (fun ls hl => ?_)
      obtain ⟨x_2, ex_2⟩ : ∃ y : Int32, y = x4 + (1 : Int32) := ⟨_, rfl⟩
      have h := h x_2 ex_2
      refine lv_iinc (v := x_2) (lv' := [(4, .int x_2), (3, .int x_1), (0, .ref (η 4)), (2, .int x2)]) X.1 X.2.1 dX6_numberOf_38 hl (k := 3) rfl (by rw [ex_2]; rfl) (by decide) rfl (fun ls hl => ?_)
      refine lv_goto (tgt := 16) X.1 X.2.1 dX6_numberOf_41 (by decide) ?_
      exact hK16 M x2 x_1 x_2 _ _ _ h hw (lv_sub hl [2, 3, 1, 0] rfl)
def wX6_numberOf (n : Nat) (M : Sg) (a1 : Int32) (a2 : Int32) (Q : Sg → Int32 → Prop) : Prop := (((a2 - a1) ≤ (4 : Int32) → (∃ g16_ : Nat, vX6_numberOf_16 n Q g16_ M a2 (0 : Int32) a1)) ∧ (¬ (a2 - a1) ≤ (4 : Int32) → (Q M (10017 : Int32))))
set_option maxHeartbeats 4000000 in
set_option maxRecDepth 100000 in
theorem kX6_numberOf {l : Launch} {D : va_G} {κ : Nat → ClassId} {η : Nat → Nat} {σ : (Nat → Nat) × (Nat → Nat)} {n : Nat} {M : Sg} {a1 : Int32} {a2 : Int32} {Q : Sg → Int32 → Prop} (h : wX6_numberOf n M a1 a2 Q) : Ki (cN σ) D (Ky κ) (cw κ η n) l yX6_numberOf wsX6_numberOf rmX6_numberOf [.ref (η 4), .int a1, .int a2] M Q := by
  refine ofW_g (Qc := fun A => Qi D (Ky κ) (cw κ η n) A Q) (cc := cX6_numberOf) (maxL := 5) (ret := (some .int)) (by decide) rfl (Nat.le_of_ble_eq_true rfl) ?_
  intro p e s m args below meth c A ls X hr hlk hw hl
  have hl : lv_has ls 5 [(0, .ref (η 4)), (1, .int a1), (2, .int a2)] := hl
  refine lv_iload_n X.1 X.2.1 dX6_numberOf_0 rfl (lv_at hl 2 rfl) ?_
  refine lv_iload_n X.1 X.2.1 dX6_numberOf_1 rfl (lv_at hl 1 rfl) ?_
  refine lv_isub X.1 X.2.1 dX6_numberOf_2 ?_
  refine lv_iconst (v := (4 : Int32)) X.1 X.2.1 dX6_numberOf_3 (by decide) ?_
  obtain ⟨ht_, hf_⟩ := h
  refine lv_icmp_le (tgt := 11) X.1 X.2.1 dX6_numberOf_4 (by decide) (fun c_ => ?_) (fun c_ => ?_)
  · have h := ht_ c_
    refine lv_iconst (v := (0 : Int32)) X.1 X.2.1 dX6_numberOf_11 (by decide) ?_
    refine lv_istore_n (lv' := [(3, .int (0 : Int32)), (0, .ref (η 4)), (1, .int a1), (2, .int a2)]) X.1 X.2.1 dX6_numberOf_12 rfl hl (by decide) rfl (fun ls hl => ?_)
    refine lv_iload_n X.1 X.2.1 dX6_numberOf_13 rfl (lv_at hl 2 rfl) ?_
    refine lv_istore (lv' := [(4, .int a1), (3, .int (0 : Int32)), (0, .ref (η 4)), (1, .int a1), (2, .int a2)]) X.1 X.2.1 dX6_numberOf_14 hl (by decide) rfl (fun ls hl => ?_)
    obtain ⟨f_, h⟩ := h
    exact bX6_numberOf_16 X hr hlk f_ M a2 (0 : Int32) a1 _ _ _ h hw (lv_sub hl [2, 4, 1, 0] rfl)
  · have h := hf_ c_
    refine lv_sipush (v := (10017 : Int32)) X.1 X.2.1 dX6_numberOf_7 (by decide) ?_
    exact r_ret X hr hlk hw h dX6_numberOf_10

abbrev rmX6_signOf : Room := { frames := 0, cells := 0, slots := 0, locals := 0 }
def wX6_signOf (n : Nat) (M : Sg) (a0 : Int32) (Q : Sg → Int32 → Prop) : Prop := ((a0 = (40 : Int32) → (Q M (10013 : Int32))) ∧ (a0 = (41 : Int32) → (Q M (10014 : Int32))) ∧ (a0 = (42 : Int32) → (Q M (10017 : Int32))) ∧ (a0 = (43 : Int32) → (Q M (10006 : Int32))) ∧ (a0 = (44 : Int32) → (Q M (10017 : Int32))) ∧ (a0 = (45 : Int32) → (Q M (10007 : Int32))) ∧ (a0 = (46 : Int32) → (Q M (10017 : Int32))) ∧ (a0 = (47 : Int32) → (Q M (10017 : Int32))) ∧ (a0 = (48 : Int32) → (Q M (10017 : Int32))) ∧ (a0 = (49 : Int32) → (Q M (10017 : Int32))) ∧ (a0 = (50 : Int32) → (Q M (10017 : Int32))) ∧ (a0 = (51 : Int32) → (Q M (10017 : Int32))) ∧ (a0 = (52 : Int32) → (Q M (10017 : Int32))) ∧ (a0 = (53 : Int32) → (Q M (10017 : Int32))) ∧ (a0 = (54 : Int32) → (Q M (10017 : Int32))) ∧ (a0 = (55 : Int32) → (Q M (10017 : Int32))) ∧ (a0 = (56 : Int32) → (Q M (10017 : Int32))) ∧ (a0 = (57 : Int32) → (Q M (10017 : Int32))) ∧ (a0 = (58 : Int32) → (Q M (10017 : Int32))) ∧ (a0 = (59 : Int32) → (Q M (10015 : Int32))) ∧ (a0 = (60 : Int32) → (Q M (10008 : Int32))) ∧ (a0 = (61 : Int32) → (Q M (10009 : Int32))) ∧ ((¬ a0 = (40 : Int32) ∧ ¬ a0 = (41 : Int32) ∧ ¬ a0 = (42 : Int32) ∧ ¬ a0 = (43 : Int32) ∧ ¬ a0 = (44 : Int32) ∧ ¬ a0 = (45 : Int32) ∧ ¬ a0 = (46 : Int32) ∧ ¬ a0 = (47 : Int32) ∧ ¬ a0 = (48 : Int32) ∧ ¬ a0 = (49 : Int32) ∧ ¬ a0 = (50 : Int32) ∧ ¬ a0 = (51 : Int32) ∧ ¬ a0 = (52 : Int32) ∧ ¬ a0 = (53 : Int32) ∧ ¬ a0 = (54 : Int32) ∧ ¬ a0 = (55 : Int32) ∧ ¬ a0 = (56 : Int32) ∧ ¬ a0 = (57 : Int32) ∧ ¬ a0 = (58 : Int32) ∧ ¬ a0 = (59 : Int32) ∧ ¬ a0 = (60 : Int32) ∧ ¬ a0 = (61 : Int32)) → (Q M (10017 : Int32))))
set_option maxHeartbeats 4000000 in
set_option maxRecDepth 100000 in
theorem kX6_signOf {l : Launch} {D : va_G} {κ : Nat → ClassId} {η : Nat → Nat} {σ : (Nat → Nat) × (Nat → Nat)} {n : Nat} {M : Sg} {a0 : Int32} {Q : Sg → Int32 → Prop} (h : wX6_signOf n M a0 Q) : Ki (cN σ) D (Ky κ) (cw κ η n) l yX6_signOf wsX6_signOf rmX6_signOf [.int a0] M Q := by
  refine ofW_g (Qc := fun A => Qi D (Ky κ) (cw κ η n) A Q) (cc := cX6_signOf) (maxL := 1) (ret := (some .int)) (by decide) rfl (Nat.le_of_ble_eq_true rfl) ?_
  intro p e s m args below meth c A ls X hr hlk hw hl
  have hl : lv_has ls 1 [(0, .int a0)] := hl
  refine lv_iload_n X.1 X.2.1 dX6_signOf_0 rfl (lv_at hl 0 rfl) ?_
  obtain ⟨hs0_, hs1_, hs2_, hs3_, hs4_, hs5_, hs6_, hs7_, hs8_, hs9_, hs10_, hs11_, hs12_, hs13_, hs14_, hs15_, hs16_, hs17_, hs18_, hs19_, hs20_, hs21_, hd_⟩ := h
  by_cases cs0_ : a0 = (40 : Int32)
  · have h := hs0_ cs0_
    refine lv_tableIn (tgt := 104) (off := (103)) X.1 X.2.1 dX6_signOf_1 (by rw [cs0_]; decide) (by rw [cs0_]; decide) (by rw [cs0_]; decide) (by decide) ?_
    refine lv_sipush (v := (10013 : Int32)) X.1 X.2.1 dX6_signOf_104 (by decide) ?_
    exact r_ret X hr hlk hw h dX6_signOf_107
  by_cases cs1_ : a0 = (41 : Int32)
  · have h := hs1_ cs1_
    refine lv_tableIn (tgt := 108) (off := (107)) X.1 X.2.1 dX6_signOf_1 (by rw [cs1_]; decide) (by rw [cs1_]; decide) (by rw [cs1_]; decide) (by decide) ?_
    refine lv_sipush (v := (10014 : Int32)) X.1 X.2.1 dX6_signOf_108 (by decide) ?_
    exact r_ret X hr hlk hw h dX6_signOf_111
  by_cases cs2_ : a0 = (42 : Int32)
  · have h := hs2_ cs2_
    refine lv_tableIn (tgt := 132) (off := (131)) X.1 X.2.1 dX6_signOf_1 (by rw [cs2_]; decide) (by rw [cs2_]; decide) (by rw [cs2_]; decide) (by decide) ?_
    refine lv_sipush (v := (10017 : Int32)) X.1 X.2.1 dX6_signOf_132 (by decide) ?_
    exact r_ret X hr hlk hw h dX6_signOf_135
  by_cases cs3_ : a0 = (43 : Int32)
  · have h := hs3_ cs3_
    refine lv_tableIn (tgt := 120) (off := (119)) X.1 X.2.1 dX6_signOf_1 (by rw [cs3_]; decide) (by rw [cs3_]; decide) (by rw [cs3_]; decide) (by decide) ?_
    refine lv_sipush (v := (10006 : Int32)) X.1 X.2.1 dX6_signOf_120 (by decide) ?_
    exact r_ret X hr hlk hw h dX6_signOf_123
  by_cases cs4_ : a0 = (44 : Int32)
  · have h := hs4_ cs4_
    refine lv_tableIn (tgt := 132) (off := (131)) X.1 X.2.1 dX6_signOf_1 (by rw [cs4_]; decide) (by rw [cs4_]; decide) (by rw [cs4_]; decide) (by decide) ?_
    refine lv_sipush (v := (10017 : Int32)) X.1 X.2.1 dX6_signOf_132 (by decide) ?_
    exact r_ret X hr hlk hw h dX6_signOf_135
  by_cases cs5_ : a0 = (45 : Int32)
  · have h := hs5_ cs5_
    refine lv_tableIn (tgt := 124) (off := (123)) X.1 X.2.1 dX6_signOf_1 (by rw [cs5_]; decide) (by rw [cs5_]; decide) (by rw [cs5_]; decide) (by decide) ?_
    refine lv_sipush (v := (10007 : Int32)) X.1 X.2.1 dX6_signOf_124 (by decide) ?_
    exact r_ret X hr hlk hw h dX6_signOf_127
  by_cases cs6_ : a0 = (46 : Int32)
  · have h := hs6_ cs6_
    refine lv_tableIn (tgt := 132) (off := (131)) X.1 X.2.1 dX6_signOf_1 (by rw [cs6_]; decide) (by rw [cs6_]; decide) (by rw [cs6_]; decide) (by decide) ?_
    refine lv_sipush (v := (10017 : Int32)) X.1 X.2.1 dX6_signOf_132 (by decide) ?_
    exact r_ret X hr hlk hw h dX6_signOf_135
  by_cases cs7_ : a0 = (47 : Int32)
  · have h := hs7_ cs7_
    refine lv_tableIn (tgt := 132) (off := (131)) X.1 X.2.1 dX6_signOf_1 (by rw [cs7_]; decide) (by rw [cs7_]; decide) (by rw [cs7_]; decide) (by decide) ?_
    refine lv_sipush (v := (10017 : Int32)) X.1 X.2.1 dX6_signOf_132 (by decide) ?_
    exact r_ret X hr hlk hw h dX6_signOf_135
  by_cases cs8_ : a0 = (48 : Int32)
  · have h := hs8_ cs8_
    refine lv_tableIn (tgt := 132) (off := (131)) X.1 X.2.1 dX6_signOf_1 (by rw [cs8_]; decide) (by rw [cs8_]; decide) (by rw [cs8_]; decide) (by decide) ?_
    refine lv_sipush (v := (10017 : Int32)) X.1 X.2.1 dX6_signOf_132 (by decide) ?_
    exact r_ret X hr hlk hw h dX6_signOf_135
  by_cases cs9_ : a0 = (49 : Int32)
  · have h := hs9_ cs9_
    refine lv_tableIn (tgt := 132) (off := (131)) X.1 X.2.1 dX6_signOf_1 (by rw [cs9_]; decide) (by rw [cs9_]; decide) (by rw [cs9_]; decide) (by decide) ?_
    refine lv_sipush (v := (10017 : Int32)) X.1 X.2.1 dX6_signOf_132 (by decide) ?_
    exact r_ret X hr hlk hw h dX6_signOf_135
  by_cases cs10_ : a0 = (50 : Int32)
  · have h := hs10_ cs10_
    refine lv_tableIn (tgt := 132) (off := (131)) X.1 X.2.1 dX6_signOf_1 (by rw [cs10_]; decide) (by rw [cs10_]; decide) (by rw [cs10_]; decide) (by decide) ?_
    refine lv_sipush (v := (10017 : Int32)) X.1 X.2.1 dX6_signOf_132 (by decide) ?_
    exact r_ret X hr hlk hw h dX6_signOf_135
  by_cases cs11_ : a0 = (51 : Int32)
  · have h := hs11_ cs11_
    refine lv_tableIn (tgt := 132) (off := (131)) X.1 X.2.1 dX6_signOf_1 (by rw [cs11_]; decide) (by rw [cs11_]; decide) (by rw [cs11_]; decide) (by decide) ?_
    refine lv_sipush (v := (10017 : Int32)) X.1 X.2.1 dX6_signOf_132 (by decide) ?_
    exact r_ret X hr hlk hw h dX6_signOf_135
  by_cases cs12_ : a0 = (52 : Int32)
  · have h := hs12_ cs12_
    refine lv_tableIn (tgt := 132) (off := (131)) X.1 X.2.1 dX6_signOf_1 (by rw [cs12_]; decide) (by rw [cs12_]; decide) (by rw [cs12_]; decide) (by decide) ?_
    refine lv_sipush (v := (10017 : Int32)) X.1 X.2.1 dX6_signOf_132 (by decide) ?_
    exact r_ret X hr hlk hw h dX6_signOf_135
  by_cases cs13_ : a0 = (53 : Int32)
  · have h := hs13_ cs13_
    refine lv_tableIn (tgt := 132) (off := (131)) X.1 X.2.1 dX6_signOf_1 (by rw [cs13_]; decide) (by rw [cs13_]; decide) (by rw [cs13_]; decide) (by decide) ?_
    refine lv_sipush (v := (10017 : Int32)) X.1 X.2.1 dX6_signOf_132 (by decide) ?_
    exact r_ret X hr hlk hw h dX6_signOf_135
  by_cases cs14_ : a0 = (54 : Int32)
  · have h := hs14_ cs14_
    refine lv_tableIn (tgt := 132) (off := (131)) X.1 X.2.1 dX6_signOf_1 (by rw [cs14_]; decide) (by rw [cs14_]; decide) (by rw [cs14_]; decide) (by decide) ?_
    refine lv_sipush (v := (10017 : Int32)) X.1 X.2.1 dX6_signOf_132 (by decide) ?_
    exact r_ret X hr hlk hw h dX6_signOf_135
  by_cases cs15_ : a0 = (55 : Int32)
  · have h := hs15_ cs15_
    refine lv_tableIn (tgt := 132) (off := (131)) X.1 X.2.1 dX6_signOf_1 (by rw [cs15_]; decide) (by rw [cs15_]; decide) (by rw [cs15_]; decide) (by decide) ?_
    refine lv_sipush (v := (10017 : Int32)) X.1 X.2.1 dX6_signOf_132 (by decide) ?_
    exact r_ret X hr hlk hw h dX6_signOf_135
  by_cases cs16_ : a0 = (56 : Int32)
  · have h := hs16_ cs16_
    refine lv_tableIn (tgt := 132) (off := (131)) X.1 X.2.1 dX6_signOf_1 (by rw [cs16_]; decide) (by rw [cs16_]; decide) (by rw [cs16_]; decide) (by decide) ?_
    refine lv_sipush (v := (10017 : Int32)) X.1 X.2.1 dX6_signOf_132 (by decide) ?_
    exact r_ret X hr hlk hw h dX6_signOf_135
  by_cases cs17_ : a0 = (57 : Int32)
  · have h := hs17_ cs17_
    refine lv_tableIn (tgt := 132) (off := (131)) X.1 X.2.1 dX6_signOf_1 (by rw [cs17_]; decide) (by rw [cs17_]; decide) (by rw [cs17_]; decide) (by decide) ?_
    refine lv_sipush (v := (10017 : Int32)) X.1 X.2.1 dX6_signOf_132 (by decide) ?_
    exact r_ret X hr hlk hw h dX6_signOf_135
  by_cases cs18_ : a0 = (58 : Int32)
  · have h := hs18_ cs18_
    refine lv_tableIn (tgt := 132) (off := (131)) X.1 X.2.1 dX6_signOf_1 (by rw [cs18_]; decide) (by rw [cs18_]; decide) (by rw [cs18_]; decide) (by decide) ?_
    refine lv_sipush (v := (10017 : Int32)) X.1 X.2.1 dX6_signOf_132 (by decide) ?_
    exact r_ret X hr hlk hw h dX6_signOf_135
  by_cases cs19_ : a0 = (59 : Int32)
  · have h := hs19_ cs19_
    refine lv_tableIn (tgt := 128) (off := (127)) X.1 X.2.1 dX6_signOf_1 (by rw [cs19_]; decide) (by rw [cs19_]; decide) (by rw [cs19_]; decide) (by decide) ?_
    refine lv_sipush (v := (10015 : Int32)) X.1 X.2.1 dX6_signOf_128 (by decide) ?_
    exact r_ret X hr hlk hw h dX6_signOf_131
  by_cases cs20_ : a0 = (60 : Int32)
  · have h := hs20_ cs20_
    refine lv_tableIn (tgt := 112) (off := (111)) X.1 X.2.1 dX6_signOf_1 (by rw [cs20_]; decide) (by rw [cs20_]; decide) (by rw [cs20_]; decide) (by decide) ?_
    refine lv_sipush (v := (10008 : Int32)) X.1 X.2.1 dX6_signOf_112 (by decide) ?_
    exact r_ret X hr hlk hw h dX6_signOf_115
  by_cases cs21_ : a0 = (61 : Int32)
  · have h := hs21_ cs21_
    refine lv_tableIn (tgt := 116) (off := (115)) X.1 X.2.1 dX6_signOf_1 (by rw [cs21_]; decide) (by rw [cs21_]; decide) (by rw [cs21_]; decide) (by decide) ?_
    refine lv_sipush (v := (10009 : Int32)) X.1 X.2.1 dX6_signOf_116 (by decide) ?_
    exact r_ret X hr hlk hw h dX6_signOf_119
  have h := hd_ ⟨cs0_, cs1_, cs2_, cs3_, cs4_, cs5_, cs6_, cs7_, cs8_, cs9_, cs10_, cs11_, cs12_, cs13_, cs14_, cs15_, cs16_, cs17_, cs18_, cs19_, cs20_, cs21_⟩
  have cn0_ : ¬ (a0).toInt = 40 := fun q => cs0_ (Int32.toInt_inj.mp (q.trans (by decide)))
  have cn1_ : ¬ (a0).toInt = 41 := fun q => cs1_ (Int32.toInt_inj.mp (q.trans (by decide)))
  have cn2_ : ¬ (a0).toInt = 42 := fun q => cs2_ (Int32.toInt_inj.mp (q.trans (by decide)))
  have cn3_ : ¬ (a0).toInt = 43 := fun q => cs3_ (Int32.toInt_inj.mp (q.trans (by decide)))
  have cn4_ : ¬ (a0).toInt = 44 := fun q => cs4_ (Int32.toInt_inj.mp (q.trans (by decide)))
  have cn5_ : ¬ (a0).toInt = 45 := fun q => cs5_ (Int32.toInt_inj.mp (q.trans (by decide)))
  have cn6_ : ¬ (a0).toInt = 46 := fun q => cs6_ (Int32.toInt_inj.mp (q.trans (by decide)))
  have cn7_ : ¬ (a0).toInt = 47 := fun q => cs7_ (Int32.toInt_inj.mp (q.trans (by decide)))
  have cn8_ : ¬ (a0).toInt = 48 := fun q => cs8_ (Int32.toInt_inj.mp (q.trans (by decide)))
  have cn9_ : ¬ (a0).toInt = 49 := fun q => cs9_ (Int32.toInt_inj.mp (q.trans (by decide)))
  have cn10_ : ¬ (a0).toInt = 50 := fun q => cs10_ (Int32.toInt_inj.mp (q.trans (by decide)))
  have cn11_ : ¬ (a0).toInt = 51 := fun q => cs11_ (Int32.toInt_inj.mp (q.trans (by decide)))
  have cn12_ : ¬ (a0).toInt = 52 := fun q => cs12_ (Int32.toInt_inj.mp (q.trans (by decide)))
  have cn13_ : ¬ (a0).toInt = 53 := fun q => cs13_ (Int32.toInt_inj.mp (q.trans (by decide)))
  have cn14_ : ¬ (a0).toInt = 54 := fun q => cs14_ (Int32.toInt_inj.mp (q.trans (by decide)))
  have cn15_ : ¬ (a0).toInt = 55 := fun q => cs15_ (Int32.toInt_inj.mp (q.trans (by decide)))
  have cn16_ : ¬ (a0).toInt = 56 := fun q => cs16_ (Int32.toInt_inj.mp (q.trans (by decide)))
  have cn17_ : ¬ (a0).toInt = 57 := fun q => cs17_ (Int32.toInt_inj.mp (q.trans (by decide)))
  have cn18_ : ¬ (a0).toInt = 58 := fun q => cs18_ (Int32.toInt_inj.mp (q.trans (by decide)))
  have cn19_ : ¬ (a0).toInt = 59 := fun q => cs19_ (Int32.toInt_inj.mp (q.trans (by decide)))
  have cn20_ : ¬ (a0).toInt = 60 := fun q => cs20_ (Int32.toInt_inj.mp (q.trans (by decide)))
  have cn21_ : ¬ (a0).toInt = 61 := fun q => cs21_ (Int32.toInt_inj.mp (q.trans (by decide)))
  refine lv_tableOut (tgt := 132) X.1 X.2.1 dX6_signOf_1 (by omega) (by decide) ?_
  refine lv_sipush (v := (10017 : Int32)) X.1 X.2.1 dX6_signOf_132 (by decide) ?_
  exact r_ret X hr hlk hw h dX6_signOf_135

theorem inX6_isSpelt_X6 : ∀ w ∈ wsX60, w ∈ wsX6_isSpelt := fun w h => List.mem_cons_of_mem _ (List.mem_append_right _ h)
abbrev rmX6_isSpelt : Room := { frames := 4, cells := 0, slots := 0, locals := 85 }
def vX6_isSpelt_15 (n : Nat) (Q : Sg → Int32 → Prop) : Nat → Sg → Int32 → Nat → Int32 → Prop
  | 0, _, _, _, _ => False
  | f15_ + 1, M, x1, x3, x4 => (x3 < 11 ∧ (((nI (sLen.getD x3 0)) ≤ x4 → (Q M (1 : Int32))) ∧ (¬ (nI (sLen.getD x3 0)) ≤ x4 → (gI M 25 = 1 ∧ (vp_in (x1 + x4) 600 ∧ ((x3 < 11 ∧ vp_in x4 (sLen.getD x3 0)) ∧ (((gA M 8 (x1 + x4).toNatClampNeg) = (sC x3 x4.toNatClampNeg) → (∀ (x_5 : Int32), x_5 = x4 + (1 : Int32) → (vX6_isSpelt_15 n Q f15_ M x1 x3 x_5))) ∧ (¬ (gA M 8 (x1 + x4).toNatClampNeg) = (sC x3 x4.toNatClampNeg) → (Q M (0 : Int32))))))))))
set_option maxHeartbeats 4000000 in
set_option maxRecDepth 100000 in
theorem bX6_isSpelt_15 {p : Program} {l : Launch} {e : Env} {s : State} {m : MethodId} {args : Array Value} {below : List Frame} {meth : Method} {c : Code} {D : va_G} {κ : Nat → ClassId} {η : Nat → Nat} {σ : (Nat → Nat) × (Nat → Nat)} {A : Nat → Prop} {n : Nat} {Q : Sg → Int32 → Prop} (X : CallFix p m c cX6_isSpelt 5 s args wsX6_isSpelt RX6) (hr : meth.sig.returnType = (some .boolean)) (hlk : meth.locks = false) : ∀ (f_ : Nat) (M : Sg) (x1 : Int32) (x3 : Nat) (x4 : Int32) (H : Heap) (locs : List Loc) (ls : Array Slot), vX6_isSpelt_15 n Q f_ M x1 x3 x4 → Wd (cN σ) D (Ky κ) A s (cw κ η n M) H locs → lv_has ls 5 [(0, .ref (η 4)), (1, .int x1), (3, .ref (σ.1 x3)), (4, .int x4)] → W p l e rmX6_isSpelt s m args below meth c H locs 0 0 (MQ below (Qi D (Ky κ) (cw κ η n) A Q) args s 0 0 A) (F0 m 15 ls []) := by
  intro f_
  induction f_ with
  | zero => intro M x1 x3 x4 H locs ls h; exact h.elim
  | succ f_ hK15 =>
    intro M x1 x3 x4 H locs ls h hw hl
    refine lv_iload X.1 X.2.1 dX6_isSpelt_15 (lv_at hl 3 rfl) ?_
    refine lv_aload_n X.1 X.2.1 dX6_isSpelt_17 rfl (lv_at hl 2 rfl) ?_
    obtain ⟨hi_, h⟩ := h
    refine r_ViR (As := []) (rest := [.int x4]) X cN_ok (kJ0_length_8abf5 (Q := fun u_ r_ => u_ = M ∧ r_ = (nI (sLen.getD x3 0))) hi_ ⟨rfl, rfl⟩) (cwV 0 X.2.2.2.2 gX6_isSpelt_J0_length_8abf5 rfl rfl rfl (by decide +kernel) ⟨Nat.le_of_ble_eq_true rfl, Nat.le_of_ble_eq_true rfl⟩) hw (vk_recv hw.2.2.2.2.2.2.2.1 hi_ hw.2.2.1) rfl hl.1 rfl (Nat.le_of_ble_eq_true rfl) dX6_isSpelt_18 (fun r_1 M_2 H locs hq_ hw => ?_)
    obtain ⟨e1_, e2_⟩ := hq_
    rw [e1_] at hw
    rw [e2_]
    obtain ⟨ht_, hf_⟩ := h
    refine lv_icmp_ge (tgt := 50) X.1 X.2.1 dX6_isSpelt_21 (by decide) (fun c_ => ?_) (fun c_ => ?_)
    · have h := ht_ c_
      refine lv_iconst (v := (1 : Int32)) X.1 X.2.1 dX6_isSpelt_50 (by decide) ?_
      exact r_zret X hr hlk hw rfl h dX6_isSpelt_51
    · have h := hf_ c_
      refine lv_aload_n X.1 X.2.1 dX6_isSpelt_24 rfl (lv_at hl 0 rfl) ?_
      obtain ⟨hg_, h⟩ := h
      refine r_gf X inX6_isSpelt_X6 hw 4 rfl rfl 5 (by decide) (X.2.2.2.2 (.fieldLink RX6 22 "TestHall$TextReader" "signs" "[C") (by decide +kernel)) rfl (rd_signs hg_) dX6_isSpelt_25 ?_
      refine lv_iload_n X.1 X.2.1 dX6_isSpelt_28 rfl (lv_at hl 1 rfl) ?_
      refine lv_iload X.1 X.2.1 dX6_isSpelt_29 (lv_at hl 3 rfl) ?_
      refine lv_iadd X.1 X.2.1 dX6_isSpelt_31 ?_
      obtain ⟨hi_, h⟩ := h
      refine r_cal X hw 17 2 rfl rfl hi_ dX6_isSpelt_32 ?_
      refine lv_aload_n X.1 X.2.1 dX6_isSpelt_33 rfl (lv_at hl 2 rfl) ?_
      refine lv_iload X.1 X.2.1 dX6_isSpelt_34 (lv_at hl 3 rfl) ?_
      obtain ⟨hi_, h⟩ := h
      refine r_ViR (As := [.int x4]) (rest := [.int (gA M 8 (x1 + x4).toNatClampNeg)]) X cN_ok (kJ0_charAt_5068e (Q := fun u_ r_ => u_ = M ∧ r_ = (sC x3 x4.toNatClampNeg)) hi_.1 hi_.2 ⟨rfl, rfl⟩) (cwV 1 X.2.2.2.2 gX6_isSpelt_J0_charAt_5068e rfl rfl rfl (by decide +kernel) ⟨Nat.le_of_ble_eq_true rfl, Nat.le_of_ble_eq_true rfl⟩) hw (vk_recv hw.2.2.2.2.2.2.2.1 hi_.1 hw.2.2.1) rfl hl.1 rfl (Nat.le_of_ble_eq_true rfl) dX6_isSpelt_36 (fun r_3 M_4 H locs hq_ hw => ?_)
      obtain ⟨e1_, e2_⟩ := hq_
      rw [e1_] at hw
      rw [e2_]
      obtain ⟨ht_, hf_⟩ := h
      refine lv_icmp_eq (tgt := 44) X.1 X.2.1 dX6_isSpelt_39 (by decide) (fun c_ => ?_) (fun c_ => ?_)
      · have h := ht_ c_
        obtain ⟨x_5, ex_5⟩ : ∃ y : Int32, y = x4 + (1 : Int32) := ⟨_, rfl⟩
        have h := h x_5 ex_5
        refine lv_iinc (v := x_5) (lv' := [(4, .int x_5), (0, .ref (η 4)), (1, .int x1), (3, .ref (σ.1 x3))]) X.1 X.2.1 dX6_isSpelt_44 hl (k := 3) rfl (by rw [ex_5]; rfl) (by decide) rfl (fun ls hl => ?_)
        refine lv_goto (tgt := 15) X.1 X.2.1 dX6_isSpelt_47 (by decide) ?_
        exact hK15 M x1 x3 x_5 _ _ _ h hw (lv_sub hl [1, 2, 3, 0] rfl)
      · have h := hf_ c_
        refine lv_iconst (v := (0 : Int32)) X.1 X.2.1 dX6_isSpelt_42 (by decide) ?_
        exact r_zret X hr hlk hw rfl h dX6_isSpelt_43
def wX6_isSpelt (n : Nat) (M : Sg) (a1 : Int32) (a2 : Int32) (a3 : Nat) (Q : Sg → Int32 → Prop) : Prop := (a3 < 11 ∧ (((a2 - a1) = (nI (sLen.getD a3 0)) → (∃ g15_ : Nat, vX6_isSpelt_15 n Q g15_ M a1 a3 (0 : Int32))) ∧ (¬ (a2 - a1) = (nI (sLen.getD a3 0)) → (Q M (0 : Int32)))))
set_option maxHeartbeats 4000000 in
set_option maxRecDepth 100000 in
theorem kX6_isSpelt {l : Launch} {D : va_G} {κ : Nat → ClassId} {η : Nat → Nat} {σ : (Nat → Nat) × (Nat → Nat)} {n : Nat} {M : Sg} {a1 : Int32} {a2 : Int32} {a3 : Nat} {Q : Sg → Int32 → Prop} (h : wX6_isSpelt n M a1 a2 a3 Q) : Ki (cN σ) D (Ky κ) (cw κ η n) l yX6_isSpelt wsX6_isSpelt rmX6_isSpelt [.ref (η 4), .int a1, .int a2, .ref (σ.1 a3)] M Q := by
  refine ofW_g (Qc := fun A => Qi D (Ky κ) (cw κ η n) A Q) (cc := cX6_isSpelt) (maxL := 5) (ret := (some .boolean)) (by decide) rfl (Nat.le_of_ble_eq_true rfl) ?_
  intro p e s m args below meth c A ls X hr hlk hw hl
  have hl : lv_has ls 5 [(0, .ref (η 4)), (1, .int a1), (2, .int a2), (3, .ref (σ.1 a3))] := hl
  refine lv_iload_n X.1 X.2.1 dX6_isSpelt_0 rfl (lv_at hl 2 rfl) ?_
  refine lv_iload_n X.1 X.2.1 dX6_isSpelt_1 rfl (lv_at hl 1 rfl) ?_
  refine lv_isub X.1 X.2.1 dX6_isSpelt_2 ?_
  refine lv_aload_n X.1 X.2.1 dX6_isSpelt_3 rfl (lv_at hl 3 rfl) ?_
  obtain ⟨hi_, h⟩ := h
  refine r_ViR (As := []) (rest := [.int (a2 - a1)]) X cN_ok (kJ0_length_8abf5 (Q := fun u_ r_ => u_ = M ∧ r_ = (nI (sLen.getD a3 0))) hi_ ⟨rfl, rfl⟩) (cwV 0 X.2.2.2.2 gX6_isSpelt_J0_length_8abf5 rfl rfl rfl (by decide +kernel) ⟨Nat.le_of_ble_eq_true rfl, Nat.le_of_ble_eq_true rfl⟩) hw (vk_recv hw.2.2.2.2.2.2.2.1 hi_ hw.2.2.1) rfl hl.1 rfl (Nat.le_of_ble_eq_true rfl) dX6_isSpelt_4 (fun r_1 M_2 H locs hq_ hw => ?_)
  obtain ⟨e1_, e2_⟩ := hq_
  rw [e1_] at hw
  rw [e2_]
  obtain ⟨ht_, hf_⟩ := h
  refine lv_icmp_eq (tgt := 12) X.1 X.2.1 dX6_isSpelt_7 (by decide) (fun c_ => ?_) (fun c_ => ?_)
  · have h := ht_ c_
    refine lv_iconst (v := (0 : Int32)) X.1 X.2.1 dX6_isSpelt_12 (by decide) ?_
    refine lv_istore (lv' := [(4, .int (0 : Int32)), (0, .ref (η 4)), (1, .int a1), (2, .int a2), (3, .ref (σ.1 a3))]) X.1 X.2.1 dX6_isSpelt_13 hl (by decide) rfl (fun ls hl => ?_)
    obtain ⟨f_, h⟩ := h
    exact bX6_isSpelt_15 X hr hlk f_ M a1 a3 (0 : Int32) _ _ _ h hw (lv_sub hl [1, 2, 4, 0] rfl)
  · have h := hf_ c_
    refine lv_iconst (v := (0 : Int32)) X.1 X.2.1 dX6_isSpelt_10 (by decide) ?_
    exact r_zret X hr hlk hw rfl h dX6_isSpelt_11

abbrev rmX6_wordOf : Room := { frames := 5, cells := 0, slots := 0, locals := 109 }
def wX6_wordOf (n : Nat) (M : Sg) (a1 : Int32) (a2 : Int32) (Q : Sg → Int32 → Prop) : Prop := (wX6_isSpelt n M a1 a2 0 (fun M_1 r_2 => ((r_2 = 0 → (wX6_isSpelt n M_1 a1 a2 1 (fun M_3 r_4 => ((r_4 = 0 → (wX6_isSpelt n M_3 a1 a2 2 (fun M_5 r_6 => ((r_6 = 0 → (wX6_isSpelt n M_5 a1 a2 3 (fun M_7 r_8 => ((r_8 = 0 → (wX6_isSpelt n M_7 a1 a2 4 (fun M_9 r_10 => ((r_10 = 0 → (wX6_isSpelt n M_9 a1 a2 5 (fun M_11 r_12 => ((r_12 = 0 → (wX6_isSpelt n M_11 a1 a2 6 (fun M_13 r_14 => ((r_14 = 0 → (wX6_isSpelt n M_13 a1 a2 7 (fun M_15 r_16 => ((r_16 = 0 → (wX6_isSpelt n M_15 a1 a2 8 (fun M_17 r_18 => ((r_18 = 0 → (Q M_17 (10017 : Int32))) ∧ (¬ r_18 = 0 → (Q M_17 (10005 : Int32))))))) ∧ (¬ r_16 = 0 → (Q M_15 (10004 : Int32))))))) ∧ (¬ r_14 = 0 → (Q M_13 (10003 : Int32))))))) ∧ (¬ r_12 = 0 → (Q M_11 (10002 : Int32))))))) ∧ (¬ r_10 = 0 → (Q M_9 (10001 : Int32))))))) ∧ (¬ r_8 = 0 → (Q M_7 (10000 : Int32))))))) ∧ (¬ r_6 = 0 → (Q M_5 (10010 : Int32))))))) ∧ (¬ r_4 = 0 → (Q M_3 (10012 : Int32))))))) ∧ (¬ r_2 = 0 → (Q M_1 (10011 : Int32))))))
set_option maxHeartbeats 4000000 in
set_option maxRecDepth 100000 in
theorem kX6_wordOf {l : Launch} {D : va_G} {κ : Nat → ClassId} {η : Nat → Nat} {σ : (Nat → Nat) × (Nat → Nat)} {n : Nat} {M : Sg} {a1 : Int32} {a2 : Int32} {Q : Sg → Int32 → Prop} (h : wX6_wordOf n M a1 a2 Q) : Ki (cN σ) D (Ky κ) (cw κ η n) l yX6_wordOf wsX6_wordOf rmX6_wordOf [.ref (η 4), .int a1, .int a2] M Q := by
  refine ofW_g (Qc := fun A => Qi D (Ky κ) (cw κ η n) A Q) (cc := cX6_wordOf) (maxL := 3) (ret := (some .int)) (by decide) rfl (Nat.le_of_ble_eq_true rfl) ?_
  intro p e s m args below meth c A ls X hr hlk hw hl
  have hl : lv_has ls 3 [(0, .ref (η 4)), (1, .int a1), (2, .int a2)] := hl
  refine lv_aload_n X.1 X.2.1 dX6_wordOf_0 rfl (lv_at hl 0 rfl) ?_
  refine lv_iload_n X.1 X.2.1 dX6_wordOf_1 rfl (lv_at hl 1 rfl) ?_
  refine lv_iload_n X.1 X.2.1 dX6_wordOf_2 rfl (lv_at hl 2 rfl) ?_
  refine va_ldcS X.1 X.2.1 X.2.2.2.1 (cN_str0 hw.2.2.2.2.2) dX6_wordOf_3 ?_
  refine r_Vi (As := [.int a1, .int a2, .ref (σ.1 0)]) (rest := []) X cN_ok (kX6_isSpelt h) (cwV 3 X.2.2.2.2 gX6_wordOf_X6_isSpelt rfl rfl rfl (by decide +kernel) ⟨Nat.le_of_ble_eq_true rfl, Nat.le_of_ble_eq_true rfl⟩) hw 4 6 rfl rfl rfl hl.1 rfl (Nat.le_of_ble_eq_true rfl) dX6_wordOf_5 (fun r_2 M_1 H locs h hw => ?_)
  obtain ⟨ht_, hf_⟩ := h
  refine lv_if_eq (tgt := 15) X.1 X.2.1 dX6_wordOf_8 (by decide) (fun c_ => ?_) (fun c_ => ?_)
  · have h := ht_ c_
    refine lv_aload_n X.1 X.2.1 dX6_wordOf_15 rfl (lv_at hl 0 rfl) ?_
    refine lv_iload_n X.1 X.2.1 dX6_wordOf_16 rfl (lv_at hl 1 rfl) ?_
    refine lv_iload_n X.1 X.2.1 dX6_wordOf_17 rfl (lv_at hl 2 rfl) ?_
    refine va_ldcS X.1 X.2.1 X.2.2.2.1 (cN_str1 hw.2.2.2.2.2) dX6_wordOf_18 ?_
    refine r_Vi (As := [.int a1, .int a2, .ref (σ.1 1)]) (rest := []) X cN_ok (kX6_isSpelt h) (cwV 3 X.2.2.2.2 gX6_wordOf_X6_isSpelt rfl rfl rfl (by decide +kernel) ⟨Nat.le_of_ble_eq_true rfl, Nat.le_of_ble_eq_true rfl⟩) hw 4 6 rfl rfl rfl hl.1 rfl (Nat.le_of_ble_eq_true rfl) dX6_wordOf_20 (fun r_4 M_3 H locs h hw => ?_)
    obtain ⟨ht_, hf_⟩ := h
    refine lv_if_eq (tgt := 30) X.1 X.2.1 dX6_wordOf_23 (by decide) (fun c_ => ?_) (fun c_ => ?_)
    · have h := ht_ c_
      refine lv_aload_n X.1 X.2.1 dX6_wordOf_30 rfl (lv_at hl 0 rfl) ?_
      refine lv_iload_n X.1 X.2.1 dX6_wordOf_31 rfl (lv_at hl 1 rfl) ?_
      refine lv_iload_n X.1 X.2.1 dX6_wordOf_32 rfl (lv_at hl 2 rfl) ?_
      refine va_ldcS X.1 X.2.1 X.2.2.2.1 (cN_str2 hw.2.2.2.2.2) dX6_wordOf_33 ?_
      refine r_Vi (As := [.int a1, .int a2, .ref (σ.1 2)]) (rest := []) X cN_ok (kX6_isSpelt h) (cwV 3 X.2.2.2.2 gX6_wordOf_X6_isSpelt rfl rfl rfl (by decide +kernel) ⟨Nat.le_of_ble_eq_true rfl, Nat.le_of_ble_eq_true rfl⟩) hw 4 6 rfl rfl rfl hl.1 rfl (Nat.le_of_ble_eq_true rfl) dX6_wordOf_35 (fun r_6 M_5 H locs h hw => ?_)
      obtain ⟨ht_, hf_⟩ := h
      refine lv_if_eq (tgt := 45) X.1 X.2.1 dX6_wordOf_38 (by decide) (fun c_ => ?_) (fun c_ => ?_)
      · have h := ht_ c_
        refine lv_aload_n X.1 X.2.1 dX6_wordOf_45 rfl (lv_at hl 0 rfl) ?_
        refine lv_iload_n X.1 X.2.1 dX6_wordOf_46 rfl (lv_at hl 1 rfl) ?_
        refine lv_iload_n X.1 X.2.1 dX6_wordOf_47 rfl (lv_at hl 2 rfl) ?_
        refine va_ldcS X.1 X.2.1 X.2.2.2.1 (cN_str3 hw.2.2.2.2.2) dX6_wordOf_48 ?_
        refine r_Vi (As := [.int a1, .int a2, .ref (σ.1 3)]) (rest := []) X cN_ok (kX6_isSpelt h) (cwV 3 X.2.2.2.2 gX6_wordOf_X6_isSpelt rfl rfl rfl (by decide +kernel) ⟨Nat.le_of_ble_eq_true rfl, Nat.le_of_ble_eq_true rfl⟩) hw 4 6 rfl rfl rfl hl.1 rfl (Nat.le_of_ble_eq_true rfl) dX6_wordOf_50 (fun r_8 M_7 H locs h hw => ?_)
        obtain ⟨ht_, hf_⟩ := h
        refine lv_if_eq (tgt := 60) X.1 X.2.1 dX6_wordOf_53 (by decide) (fun c_ => ?_) (fun c_ => ?_)
        · have h := ht_ c_
          refine lv_aload_n X.1 X.2.1 dX6_wordOf_60 rfl (lv_at hl 0 rfl) ?_
          refine lv_iload_n X.1 X.2.1 dX6_wordOf_61 rfl (lv_at hl 1 rfl) ?_
          refine lv_iload_n X.1 X.2.1 dX6_wordOf_62 rfl (lv_at hl 2 rfl) ?_
          refine va_ldcS X.1 X.2.1 X.2.2.2.1 (cN_str4 hw.2.2.2.2.2) dX6_wordOf_63 ?_
          refine r_Vi (As := [.int a1, .int a2, .ref (σ.1 4)]) (rest := []) X cN_ok (kX6_isSpelt h) (cwV 3 X.2.2.2.2 gX6_wordOf_X6_isSpelt rfl rfl rfl (by decide +kernel) ⟨Nat.le_of_ble_eq_true rfl, Nat.le_of_ble_eq_true rfl⟩) hw 4 6 rfl rfl rfl hl.1 rfl (Nat.le_of_ble_eq_true rfl) dX6_wordOf_65 (fun r_10 M_9 H locs h hw => ?_)
          obtain ⟨ht_, hf_⟩ := h
          refine lv_if_eq (tgt := 75) X.1 X.2.1 dX6_wordOf_68 (by decide) (fun c_ => ?_) (fun c_ => ?_)
          · have h := ht_ c_
            refine lv_aload_n X.1 X.2.1 dX6_wordOf_75 rfl (lv_at hl 0 rfl) ?_
            refine lv_iload_n X.1 X.2.1 dX6_wordOf_76 rfl (lv_at hl 1 rfl) ?_
            refine lv_iload_n X.1 X.2.1 dX6_wordOf_77 rfl (lv_at hl 2 rfl) ?_
            refine va_ldcS X.1 X.2.1 X.2.2.2.1 (cN_str5 hw.2.2.2.2.2) dX6_wordOf_78 ?_
            refine r_Vi (As := [.int a1, .int a2, .ref (σ.1 5)]) (rest := []) X cN_ok (kX6_isSpelt h) (cwV 3 X.2.2.2.2 gX6_wordOf_X6_isSpelt rfl rfl rfl (by decide +kernel) ⟨Nat.le_of_ble_eq_true rfl, Nat.le_of_ble_eq_true rfl⟩) hw 4 6 rfl rfl rfl hl.1 rfl (Nat.le_of_ble_eq_true rfl) dX6_wordOf_80 (fun r_12 M_11 H locs h hw => ?_)
            obtain ⟨ht_, hf_⟩ := h
            refine lv_if_eq (tgt := 90) X.1 X.2.1 dX6_wordOf_83 (by decide) (fun c_ => ?_) (fun c_ => ?_)
            · have h := ht_ c_
              refine lv_aload_n X.1 X.2.1 dX6_wordOf_90 rfl (lv_at hl 0 rfl) ?_
              refine lv_iload_n X.1 X.2.1 dX6_wordOf_91 rfl (lv_at hl 1 rfl) ?_
              refine lv_iload_n X.1 X.2.1 dX6_wordOf_92 rfl (lv_at hl 2 rfl) ?_
              refine va_ldcS X.1 X.2.1 X.2.2.2.1 (cN_str6 hw.2.2.2.2.2) dX6_wordOf_93 ?_
              refine r_Vi (As := [.int a1, .int a2, .ref (σ.1 6)]) (rest := []) X cN_ok (kX6_isSpelt h) (cwV 3 X.2.2.2.2 gX6_wordOf_X6_isSpelt rfl rfl rfl (by decide +kernel) ⟨Nat.le_of_ble_eq_true rfl, Nat.le_of_ble_eq_true rfl⟩) hw 4 6 rfl rfl rfl hl.1 rfl (Nat.le_of_ble_eq_true rfl) dX6_wordOf_95 (fun r_14 M_13 H locs h hw => ?_)
              obtain ⟨ht_, hf_⟩ := h
              refine lv_if_eq (tgt := 105) X.1 X.2.1 dX6_wordOf_98 (by decide) (fun c_ => ?_) (fun c_ => ?_)
              · have h := ht_ c_
                refine lv_aload_n X.1 X.2.1 dX6_wordOf_105 rfl (lv_at hl 0 rfl) ?_
                refine lv_iload_n X.1 X.2.1 dX6_wordOf_106 rfl (lv_at hl 1 rfl) ?_
                refine lv_iload_n X.1 X.2.1 dX6_wordOf_107 rfl (lv_at hl 2 rfl) ?_
                refine va_ldcS X.1 X.2.1 X.2.2.2.1 (cN_str7 hw.2.2.2.2.2) dX6_wordOf_108 ?_
                refine r_Vi (As := [.int a1, .int a2, .ref (σ.1 7)]) (rest := []) X cN_ok (kX6_isSpelt h) (cwV 3 X.2.2.2.2 gX6_wordOf_X6_isSpelt rfl rfl rfl (by decide +kernel) ⟨Nat.le_of_ble_eq_true rfl, Nat.le_of_ble_eq_true rfl⟩) hw 4 6 rfl rfl rfl hl.1 rfl (Nat.le_of_ble_eq_true rfl) dX6_wordOf_110 (fun r_16 M_15 H locs h hw => ?_)
                obtain ⟨ht_, hf_⟩ := h
                refine lv_if_eq (tgt := 120) X.1 X.2.1 dX6_wordOf_113 (by decide) (fun c_ => ?_) (fun c_ => ?_)
                · have h := ht_ c_
                  refine lv_aload_n X.1 X.2.1 dX6_wordOf_120 rfl (lv_at hl 0 rfl) ?_
                  refine lv_iload_n X.1 X.2.1 dX6_wordOf_121 rfl (lv_at hl 1 rfl) ?_
                  refine lv_iload_n X.1 X.2.1 dX6_wordOf_122 rfl (lv_at hl 2 rfl) ?_
                  refine va_ldcS X.1 X.2.1 X.2.2.2.1 (cN_str8 hw.2.2.2.2.2) dX6_wordOf_123 ?_
                  refine r_Vi (As := [.int a1, .int a2, .ref (σ.1 8)]) (rest := []) X cN_ok (kX6_isSpelt h) (cwV 3 X.2.2.2.2 gX6_wordOf_X6_isSpelt rfl rfl rfl (by decide +kernel) ⟨Nat.le_of_ble_eq_true rfl, Nat.le_of_ble_eq_true rfl⟩) hw 4 6 rfl rfl rfl hl.1 rfl (Nat.le_of_ble_eq_true rfl) dX6_wordOf_125 (fun r_18 M_17 H locs h hw => ?_)
                  obtain ⟨ht_, hf_⟩ := h
                  refine lv_if_eq (tgt := 137) X.1 X.2.1 dX6_wordOf_128 (by decide) (fun c_ => ?_) (fun c_ => ?_)
                  · have h := ht_ c_
                    refine lv_sipush (v := (10017 : Int32)) X.1 X.2.1 dX6_wordOf_137 (by decide) ?_
                    exact r_ret X hr hlk hw h dX6_wordOf_140
                  · have h := hf_ c_
                    refine lv_sipush (v := (10005 : Int32)) X.1 X.2.1 dX6_wordOf_131 (by decide) ?_
                    refine lv_goto (tgt := 140) X.1 X.2.1 dX6_wordOf_134 (by decide) ?_
                    exact r_ret X hr hlk hw h dX6_wordOf_140
                · have h := hf_ c_
                  refine lv_sipush (v := (10004 : Int32)) X.1 X.2.1 dX6_wordOf_116 (by decide) ?_
                  exact r_ret X hr hlk hw h dX6_wordOf_119
              · have h := hf_ c_
                refine lv_sipush (v := (10003 : Int32)) X.1 X.2.1 dX6_wordOf_101 (by decide) ?_
                exact r_ret X hr hlk hw h dX6_wordOf_104
            · have h := hf_ c_
              refine lv_sipush (v := (10002 : Int32)) X.1 X.2.1 dX6_wordOf_86 (by decide) ?_
              exact r_ret X hr hlk hw h dX6_wordOf_89
          · have h := hf_ c_
            refine lv_sipush (v := (10001 : Int32)) X.1 X.2.1 dX6_wordOf_71 (by decide) ?_
            exact r_ret X hr hlk hw h dX6_wordOf_74
        · have h := hf_ c_
          refine lv_sipush (v := (10000 : Int32)) X.1 X.2.1 dX6_wordOf_56 (by decide) ?_
          exact r_ret X hr hlk hw h dX6_wordOf_59
      · have h := hf_ c_
        refine lv_sipush (v := (10010 : Int32)) X.1 X.2.1 dX6_wordOf_41 (by decide) ?_
        exact r_ret X hr hlk hw h dX6_wordOf_44
    · have h := hf_ c_
      refine lv_sipush (v := (10012 : Int32)) X.1 X.2.1 dX6_wordOf_26 (by decide) ?_
      exact r_ret X hr hlk hw h dX6_wordOf_29
  · have h := hf_ c_
    refine lv_sipush (v := (10011 : Int32)) X.1 X.2.1 dX6_wordOf_11 (by decide) ?_
    exact r_ret X hr hlk hw h dX6_wordOf_14

theorem inX6_tokenOf_X6 : ∀ w ∈ wsX60, w ∈ wsX6_tokenOf := fun w h => List.mem_cons_of_mem _ (List.mem_append_right _ h)
abbrev rmX6_tokenOf : Room := { frames := 6, cells := 0, slots := 0, locals := 131 }
def wX6_tokenOf (n : Nat) (M : Sg) (a1 : Int32) (a2 : Int32) (Q : Sg → Int32 → Prop) : Prop := (gI M 25 = 1 ∧ (vp_in a1 600 ∧ (wX6_isLetter n M (gA M 8 a1.toNatClampNeg) (fun M_1 r_2 => ((r_2 = 0 → (gI M_1 25 = 1 ∧ (vp_in a1 600 ∧ (wX6_isDigit n M_1 (gA M_1 8 a1.toNatClampNeg) (fun M_3 r_4 => ((r_4 = 0 → (gI M_3 25 = 1 ∧ (vp_in a1 600 ∧ (wX6_signOf n M_3 (gA M_3 8 a1.toNatClampNeg) (fun M_5 r_6 => (Q M_5 r_6)))))) ∧ (¬ r_4 = 0 → (wX6_numberOf n M_3 a1 a2 (fun M_7 r_8 => (Q M_7 r_8)))))))))) ∧ (¬ r_2 = 0 → (wX6_wordOf n M_1 a1 a2 (fun M_9 r_10 => (Q M_9 r_10)))))))))
set_option maxHeartbeats 4000000 in
set_option maxRecDepth 100000 in
theorem kX6_tokenOf {l : Launch} {D : va_G} {κ : Nat → ClassId} {η : Nat → Nat} {σ : (Nat → Nat) × (Nat → Nat)} {n : Nat} {M : Sg} {a1 : Int32} {a2 : Int32} {Q : Sg → Int32 → Prop} (h : wX6_tokenOf n M a1 a2 Q) : Ki (cN σ) D (Ky κ) (cw κ η n) l yX6_tokenOf wsX6_tokenOf rmX6_tokenOf [.ref (η 4), .int a1, .int a2] M Q := by
  refine ofW_g (Qc := fun A => Qi D (Ky κ) (cw κ η n) A Q) (cc := cX6_tokenOf) (maxL := 3) (ret := (some .int)) (by decide) rfl (Nat.le_of_ble_eq_true rfl) ?_
  intro p e s m args below meth c A ls X hr hlk hw hl
  have hl : lv_has ls 3 [(0, .ref (η 4)), (1, .int a1), (2, .int a2)] := hl
  refine lv_aload_n X.1 X.2.1 dX6_tokenOf_0 rfl (lv_at hl 0 rfl) ?_
  obtain ⟨hg_, h⟩ := h
  refine r_gf X inX6_tokenOf_X6 hw 4 rfl rfl 5 (by decide) (X.2.2.2.2 (.fieldLink RX6 22 "TestHall$TextReader" "signs" "[C") (by decide +kernel)) rfl (rd_signs hg_) dX6_tokenOf_1 ?_
  refine lv_iload_n X.1 X.2.1 dX6_tokenOf_4 rfl (lv_at hl 1 rfl) ?_
  obtain ⟨hi_, h⟩ := h
  refine r_cal X hw 17 2 rfl rfl hi_ dX6_tokenOf_5 ?_
  refine r_Si (As := [.int (gA M 8 a1.toNatClampNeg)]) (rest := []) X cN_ok (kX6_isLetter h) (va_cwS 1 X.2.2.2.2 gX6_tokenOf_X6_isLetter rfl rfl rfl (by decide +kernel) ⟨Nat.le_of_ble_eq_true rfl, Nat.le_of_ble_eq_true rfl⟩) hw rfl hl.1 rfl (Nat.le_of_ble_eq_true rfl) dX6_tokenOf_6 (fun r_2 M_1 H locs h hw => ?_)
  obtain ⟨ht_, hf_⟩ := h
  refine lv_if_eq (tgt := 19) X.1 X.2.1 dX6_tokenOf_9 (by decide) (fun c_ => ?_) (fun c_ => ?_)
  · have h := ht_ c_
    refine lv_aload_n X.1 X.2.1 dX6_tokenOf_19 rfl (lv_at hl 0 rfl) ?_
    obtain ⟨hg_, h⟩ := h
    refine r_gf X inX6_tokenOf_X6 hw 4 rfl rfl 5 (by decide) (X.2.2.2.2 (.fieldLink RX6 22 "TestHall$TextReader" "signs" "[C") (by decide +kernel)) rfl (rd_signs hg_) dX6_tokenOf_20 ?_
    refine lv_iload_n X.1 X.2.1 dX6_tokenOf_23 rfl (lv_at hl 1 rfl) ?_
    obtain ⟨hi_, h⟩ := h
    refine r_cal X hw 17 2 rfl rfl hi_ dX6_tokenOf_24 ?_
    refine r_Si (As := [.int (gA M_1 8 a1.toNatClampNeg)]) (rest := []) X cN_ok (kX6_isDigit h) (va_cwS 1 X.2.2.2.2 gX6_tokenOf_X6_isDigit rfl rfl rfl (by decide +kernel) ⟨Nat.le_of_ble_eq_true rfl, Nat.le_of_ble_eq_true rfl⟩) hw rfl hl.1 rfl (Nat.le_of_ble_eq_true rfl) dX6_tokenOf_25 (fun r_4 M_3 H locs h hw => ?_)
    obtain ⟨ht_, hf_⟩ := h
    refine lv_if_eq (tgt := 38) X.1 X.2.1 dX6_tokenOf_28 (by decide) (fun c_ => ?_) (fun c_ => ?_)
    · have h := ht_ c_
      refine lv_aload_n X.1 X.2.1 dX6_tokenOf_38 rfl (lv_at hl 0 rfl) ?_
      obtain ⟨hg_, h⟩ := h
      refine r_gf X inX6_tokenOf_X6 hw 4 rfl rfl 5 (by decide) (X.2.2.2.2 (.fieldLink RX6 22 "TestHall$TextReader" "signs" "[C") (by decide +kernel)) rfl (rd_signs hg_) dX6_tokenOf_39 ?_
      refine lv_iload_n X.1 X.2.1 dX6_tokenOf_42 rfl (lv_at hl 1 rfl) ?_
      obtain ⟨hi_, h⟩ := h
      refine r_cal X hw 17 2 rfl rfl hi_ dX6_tokenOf_43 ?_
      refine r_Si (As := [.int (gA M_3 8 a1.toNatClampNeg)]) (rest := []) X cN_ok (kX6_signOf h) (va_cwS 1 X.2.2.2.2 gX6_tokenOf_X6_signOf rfl rfl rfl (by decide +kernel) ⟨Nat.le_of_ble_eq_true rfl, Nat.le_of_ble_eq_true rfl⟩) hw rfl hl.1 rfl (Nat.le_of_ble_eq_true rfl) dX6_tokenOf_44 (fun r_6 M_5 H locs h hw => ?_)
      exact r_ret X hr hlk hw h dX6_tokenOf_47
    · have h := hf_ c_
      refine lv_aload_n X.1 X.2.1 dX6_tokenOf_31 rfl (lv_at hl 0 rfl) ?_
      refine lv_iload_n X.1 X.2.1 dX6_tokenOf_32 rfl (lv_at hl 1 rfl) ?_
      refine lv_iload_n X.1 X.2.1 dX6_tokenOf_33 rfl (lv_at hl 2 rfl) ?_
      refine r_Vi (As := [.int a1, .int a2]) (rest := []) X cN_ok (kX6_numberOf h) (cwV 2 X.2.2.2.2 gX6_tokenOf_X6_numberOf rfl rfl rfl (by decide +kernel) ⟨Nat.le_of_ble_eq_true rfl, Nat.le_of_ble_eq_true rfl⟩) hw 4 6 rfl rfl rfl hl.1 rfl (Nat.le_of_ble_eq_true rfl) dX6_tokenOf_34 (fun r_8 M_7 H locs h hw => ?_)
      exact r_ret X hr hlk hw h dX6_tokenOf_37
  · have h := hf_ c_
    refine lv_aload_n X.1 X.2.1 dX6_tokenOf_12 rfl (lv_at hl 0 rfl) ?_
    refine lv_iload_n X.1 X.2.1 dX6_tokenOf_13 rfl (lv_at hl 1 rfl) ?_
    refine lv_iload_n X.1 X.2.1 dX6_tokenOf_14 rfl (lv_at hl 2 rfl) ?_
    refine r_Vi (As := [.int a1, .int a2]) (rest := []) X cN_ok (kX6_wordOf h) (cwV 2 X.2.2.2.2 gX6_tokenOf_X6_wordOf rfl rfl rfl (by decide +kernel) ⟨Nat.le_of_ble_eq_true rfl, Nat.le_of_ble_eq_true rfl⟩) hw 4 6 rfl rfl rfl hl.1 rfl (Nat.le_of_ble_eq_true rfl) dX6_tokenOf_15 (fun r_10 M_9 H locs h hw => ?_)
    exact r_ret X hr hlk hw h dX6_tokenOf_18

theorem inX6_scan_X6 : ∀ w ∈ wsX60, w ∈ wsX6_scan := fun w h => List.mem_cons_of_mem _ (List.mem_append_right _ h)
abbrev rmX6_scan : Room := { frames := 7, cells := 0, slots := 0, locals := 153 }
def vX6_scan_51 (n : Nat) (K9 : Sg → Int32 → Int32 → Prop) (Q : Sg → Prop) (M : Sg) (x1 : Int32) (x2 : Int32) : Prop := (∀ (x_1 : Int32), x_1 = x2 + (1 : Int32) → (K9 M x1 x_1))
set_option maxHeartbeats 4000000 in
set_option maxRecDepth 100000 in
theorem bX6_scan_51 {p : Program} {l : Launch} {e : Env} {s : State} {m : MethodId} {args : Array Value} {below : List Frame} {meth : Method} {c : Code} {D : va_G} {κ : Nat → ClassId} {η : Nat → Nat} {σ : (Nat → Nat) × (Nat → Nat)} {A : Nat → Prop} {n : Nat} {Q : Sg → Prop} {K9 : Sg → Int32 → Int32 → Prop} (X : CallFix p m c cX6_scan 3 s args wsX6_scan RX6) (hr : meth.sig.returnType = none) (hlk : meth.locks = false) (hK9 : ∀ (M : Sg) (x1 : Int32) (x2 : Int32) (H : Heap) (locs : List Loc) (ls : Array Slot), K9 M x1 x2 → Wd (cN σ) D (Ky κ) A s (cw κ η n M) H locs → lv_has ls 3 [(0, .ref (η 4)), (1, .int x1), (2, .int x2)] → W p l e rmX6_scan s m args below meth c H locs 0 0 (MQ below (Qv D (Ky κ) (cw κ η n) A Q) args s 0 0 A) (F0 m 9 ls [])) : ∀ (M : Sg) (x1 : Int32) (x2 : Int32) (H : Heap) (locs : List Loc) (ls : Array Slot), vX6_scan_51 n K9 Q M x1 x2 → Wd (cN σ) D (Ky κ) A s (cw κ η n M) H locs → lv_has ls 3 [(0, .ref (η 4)), (1, .int x1), (2, .int x2)] → W p l e rmX6_scan s m args below meth c H locs 0 0 (MQ below (Qv D (Ky κ) (cw κ η n) A Q) args s 0 0 A) (F0 m 51 ls []) := by
  intro M x1 x2 H locs ls h hw hl
  obtain ⟨x_1, ex_1⟩ : ∃ y : Int32, y = x2 + (1 : Int32) := ⟨_, rfl⟩
  have h := h x_1 ex_1
  refine lv_iinc (v := x_1) (lv' := [(2, .int x_1), (0, .ref (η 4)), (1, .int x1)]) X.1 X.2.1 dX6_scan_51 hl (k := 2) rfl (by rw [ex_1]; rfl) (by decide) rfl (fun ls hl => ?_)
  refine lv_goto (tgt := 9) X.1 X.2.1 dX6_scan_54 (by decide) ?_
  exact hK9 M x1 x_1 _ _ _ h hw (lv_sub hl [1, 2, 0] rfl)
def vX6_scan_9 (n : Nat) (Q : Sg → Prop) : Nat → Sg → Int32 → Int32 → Prop
  | 0, _, _, _ => False
  | f9_ + 1, M, x1, x2 => (((gI M 22) ≤ x2 → (wX6_addToken n M (10016 : Int32) (gI M 22) (fun M_1 => (Q M_1)))) ∧ (¬ (gI M 22) ≤ x2 → ((x2 < x1 → (vX6_scan_51 n (vX6_scan_9 n Q f9_) Q M x1 x2)) ∧ (¬ x2 < x1 → (gI M 25 = 1 ∧ (vp_in x2 600 ∧ (wX6_isBlank n M (gA M 8 x2.toNatClampNeg) (fun M_3 r_4 => ((¬ r_4 = 0 → (vX6_scan_51 n (vX6_scan_9 n Q f9_) Q M_3 x1 x2)) ∧ (r_4 = 0 → (wX6_endOf n M_3 x2 (fun M_5 r_6 => (wX6_tokenOf n M_5 x2 r_6 (fun M_7 r_8 => (wX6_addToken n M_7 r_8 x2 (fun M_9 => (vX6_scan_51 n (vX6_scan_9 n Q f9_) Q M_9 r_6 x2)))))))))))))))))
set_option maxHeartbeats 4000000 in
set_option maxRecDepth 100000 in
theorem bX6_scan_9 {p : Program} {l : Launch} {e : Env} {s : State} {m : MethodId} {args : Array Value} {below : List Frame} {meth : Method} {c : Code} {D : va_G} {κ : Nat → ClassId} {η : Nat → Nat} {σ : (Nat → Nat) × (Nat → Nat)} {A : Nat → Prop} {n : Nat} {Q : Sg → Prop} (X : CallFix p m c cX6_scan 3 s args wsX6_scan RX6) (hr : meth.sig.returnType = none) (hlk : meth.locks = false) : ∀ (f_ : Nat) (M : Sg) (x1 : Int32) (x2 : Int32) (H : Heap) (locs : List Loc) (ls : Array Slot), vX6_scan_9 n Q f_ M x1 x2 → Wd (cN σ) D (Ky κ) A s (cw κ η n M) H locs → lv_has ls 3 [(0, .ref (η 4)), (1, .int x1), (2, .int x2)] → W p l e rmX6_scan s m args below meth c H locs 0 0 (MQ below (Qv D (Ky κ) (cw κ η n) A Q) args s 0 0 A) (F0 m 9 ls []) := by
  intro f_
  induction f_ with
  | zero => intro M x1 x2 H locs ls h; exact h.elim
  | succ f_ hK9 =>
    intro M x1 x2 H locs ls h hw hl
    refine lv_iload_n X.1 X.2.1 dX6_scan_9 rfl (lv_at hl 2 rfl) ?_
    refine lv_aload_n X.1 X.2.1 dX6_scan_10 rfl (lv_at hl 0 rfl) ?_
    refine r_gf X inX6_scan_X6 hw 4 rfl rfl 6 (by decide) (X.2.2.2.2 (.fieldLink RX6 27 "TestHall$TextReader" "length" "I") (by decide +kernel)) rfl rfl dX6_scan_11 ?_
    obtain ⟨ht_, hf_⟩ := h
    refine lv_icmp_ge (tgt := 57) X.1 X.2.1 dX6_scan_14 (by decide) (fun c_ => ?_) (fun c_ => ?_)
    · have h := ht_ c_
      refine lv_aload_n X.1 X.2.1 dX6_scan_57 rfl (lv_at hl 0 rfl) ?_
      refine lv_sipush (v := (10016 : Int32)) X.1 X.2.1 dX6_scan_58 (by decide) ?_
      refine lv_aload_n X.1 X.2.1 dX6_scan_61 rfl (lv_at hl 0 rfl) ?_
      refine r_gf X inX6_scan_X6 hw 4 rfl rfl 6 (by decide) (X.2.2.2.2 (.fieldLink RX6 27 "TestHall$TextReader" "length" "I") (by decide +kernel)) rfl rfl dX6_scan_62 ?_
      refine r_Vv (As := [.int (10016 : Int32), .int (gI M 22)]) (rest := []) X cN_ok (kX6_addToken h) (cwV 2 X.2.2.2.2 gX6_scan_X6_addToken rfl rfl rfl (by decide +kernel) ⟨Nat.le_of_ble_eq_true rfl, Nat.le_of_ble_eq_true rfl⟩) hw 4 6 rfl rfl rfl hl.1 rfl (Nat.le_of_ble_eq_true rfl) dX6_scan_65 (fun M_1 H locs h hw => ?_)
      exact r_vret X hr hlk hw h dX6_scan_68
    · have h := hf_ c_
      refine lv_iload_n X.1 X.2.1 dX6_scan_17 rfl (lv_at hl 2 rfl) ?_
      refine lv_iload_n X.1 X.2.1 dX6_scan_18 rfl (lv_at hl 1 rfl) ?_
      obtain ⟨ht_, hf_⟩ := h
      refine lv_icmp_lt (tgt := 51) X.1 X.2.1 dX6_scan_19 (by decide) (fun c_ => ?_) (fun c_ => ?_)
      · have h := ht_ c_
        exact bX6_scan_51 X hr hlk hK9 M x1 x2 _ _ _ h hw (lv_sub hl [0, 1, 2] rfl)
      · have h := hf_ c_
        refine lv_aload_n X.1 X.2.1 dX6_scan_22 rfl (lv_at hl 0 rfl) ?_
        obtain ⟨hg_, h⟩ := h
        refine r_gf X inX6_scan_X6 hw 4 rfl rfl 5 (by decide) (X.2.2.2.2 (.fieldLink RX6 22 "TestHall$TextReader" "signs" "[C") (by decide +kernel)) rfl (rd_signs hg_) dX6_scan_23 ?_
        refine lv_iload_n X.1 X.2.1 dX6_scan_26 rfl (lv_at hl 2 rfl) ?_
        obtain ⟨hi_, h⟩ := h
        refine r_cal X hw 17 2 rfl rfl hi_ dX6_scan_27 ?_
        refine r_Si (As := [.int (gA M 8 x2.toNatClampNeg)]) (rest := []) X cN_ok (kX6_isBlank h) (va_cwS 1 X.2.2.2.2 gX6_scan_X6_isBlank rfl rfl rfl (by decide +kernel) ⟨Nat.le_of_ble_eq_true rfl, Nat.le_of_ble_eq_true rfl⟩) hw rfl hl.1 rfl (Nat.le_of_ble_eq_true rfl) dX6_scan_28 (fun r_4 M_3 H locs h hw => ?_)
        obtain ⟨ht_, hf_⟩ := h
        refine lv_if_ne (tgt := 51) X.1 X.2.1 dX6_scan_31 (by decide) (fun c_ => ?_) (fun c_ => ?_)
        · have h := ht_ c_
          exact bX6_scan_51 X hr hlk hK9 M_3 x1 x2 _ _ _ h hw (lv_sub hl [0, 1, 2] rfl)
        · have h := hf_ c_
          refine lv_aload_n X.1 X.2.1 dX6_scan_34 rfl (lv_at hl 0 rfl) ?_
          refine lv_iload_n X.1 X.2.1 dX6_scan_35 rfl (lv_at hl 2 rfl) ?_
          refine r_Vi (As := [.int x2]) (rest := []) X cN_ok (kX6_endOf h) (cwV 1 X.2.2.2.2 gX6_scan_X6_endOf rfl rfl rfl (by decide +kernel) ⟨Nat.le_of_ble_eq_true rfl, Nat.le_of_ble_eq_true rfl⟩) hw 4 6 rfl rfl rfl hl.1 rfl (Nat.le_of_ble_eq_true rfl) dX6_scan_36 (fun r_6 M_5 H locs h hw => ?_)
          refine lv_istore_n (lv' := [(1, .int r_6), (0, .ref (η 4)), (2, .int x2)]) X.1 X.2.1 dX6_scan_39 rfl hl (by decide) rfl (fun ls hl => ?_)
          refine lv_aload_n X.1 X.2.1 dX6_scan_40 rfl (lv_at hl 1 rfl) ?_
          refine lv_aload_n X.1 X.2.1 dX6_scan_41 rfl (lv_at hl 1 rfl) ?_
          refine lv_iload_n X.1 X.2.1 dX6_scan_42 rfl (lv_at hl 2 rfl) ?_
          refine lv_iload_n X.1 X.2.1 dX6_scan_43 rfl (lv_at hl 0 rfl) ?_
          refine r_Vi (As := [.int x2, .int r_6]) (rest := [.ref (η 4)]) X cN_ok (kX6_tokenOf h) (cwV 2 X.2.2.2.2 gX6_scan_X6_tokenOf rfl rfl rfl (by decide +kernel) ⟨Nat.le_of_ble_eq_true rfl, Nat.le_of_ble_eq_true rfl⟩) hw 4 6 rfl rfl rfl hl.1 rfl (Nat.le_of_ble_eq_true rfl) dX6_scan_44 (fun r_8 M_7 H locs h hw => ?_)
          refine lv_iload_n X.1 X.2.1 dX6_scan_47 rfl (lv_at hl 2 rfl) ?_
          refine r_Vv (As := [.int r_8, .int x2]) (rest := []) X cN_ok (kX6_addToken h) (cwV 2 X.2.2.2.2 gX6_scan_X6_addToken rfl rfl rfl (by decide +kernel) ⟨Nat.le_of_ble_eq_true rfl, Nat.le_of_ble_eq_true rfl⟩) hw 4 6 rfl rfl rfl hl.1 rfl (Nat.le_of_ble_eq_true rfl) dX6_scan_48 (fun M_9 H locs h hw => ?_)
          exact bX6_scan_51 X hr hlk hK9 M_9 r_6 x2 _ _ _ h hw (lv_sub hl [1, 0, 2] rfl)
def wX6_scan (n : Nat) (M : Sg) (Q : Sg → Prop) : Prop := (∀ (M_1 : Sg), M_1 = sI M 19 (0 : Int32) → (∃ g9_ : Nat, vX6_scan_9 n Q g9_ M_1 (0 : Int32) (0 : Int32)))
set_option maxHeartbeats 4000000 in
set_option maxRecDepth 100000 in
theorem kX6_scan {l : Launch} {D : va_G} {κ : Nat → ClassId} {η : Nat → Nat} {σ : (Nat → Nat) × (Nat → Nat)} {n : Nat} {M : Sg} {Q : Sg → Prop} (h : wX6_scan n M Q) : Kv (cN σ) D (Ky κ) (cw κ η n) l yX6_scan wsX6_scan rmX6_scan [.ref (η 4)] M Q := by
  refine ofW_g (Qc := fun A => Qv D (Ky κ) (cw κ η n) A Q) (cc := cX6_scan) (maxL := 3) (ret := none) (by decide) rfl (Nat.le_of_ble_eq_true rfl) ?_
  intro p e s m args below meth c A ls X hr hlk hw hl
  have hl : lv_has ls 3 [(0, .ref (η 4))] := hl
  refine lv_aload_n X.1 X.2.1 dX6_scan_0 rfl (lv_at hl 0 rfl) ?_
  refine lv_iconst (v := (0 : Int32)) X.1 X.2.1 dX6_scan_1 (by decide) ?_
  refine r_pf (ty := .int) (w' := cw κ η n (sI M 19 (0 : Int32))) X inX6_scan_X6 tyX6_ok nmX6 hw 4 rfl rfl 2 (by decide) (X.2.2.2.2 (.fieldLink RX6 59 "TestHall$TextReader" "size" "I") (by decide +kernel)) rfl rfl (by decide +kernel) rfl rfl (Nat.le_of_ble_eq_true rfl) rfl dX6_scan_2 (fun H locs hw => ?_)
  obtain ⟨M_1, eM_1⟩ : ∃ y : Sg, y = sI M 19 (0 : Int32) := ⟨_, rfl⟩
  rw [← eM_1] at hw
  have h := h M_1 eM_1
  refine lv_iconst (v := (0 : Int32)) X.1 X.2.1 dX6_scan_5 (by decide) ?_
  refine lv_istore_n (lv' := [(1, .int (0 : Int32)), (0, .ref (η 4))]) X.1 X.2.1 dX6_scan_6 rfl hl (by decide) rfl (fun ls hl => ?_)
  refine lv_iconst (v := (0 : Int32)) X.1 X.2.1 dX6_scan_7 (by decide) ?_
  refine lv_istore_n (lv' := [(2, .int (0 : Int32)), (1, .int (0 : Int32)), (0, .ref (η 4))]) X.1 X.2.1 dX6_scan_8 rfl hl (by decide) rfl (fun ls hl => ?_)
  obtain ⟨f_, h⟩ := h
  exact bX6_scan_9 X hr hlk f_ M_1 (0 : Int32) (0 : Int32) _ _ _ h hw (lv_sub hl [2, 1, 0] rfl)

theorem inX6_read_X4 : ∀ w ∈ wsX40, w ∈ wsX6_read := fun w h => List.mem_cons_of_mem _ (List.mem_append_left _ (List.mem_append_left _ (List.mem_append_right _ h)))
theorem inX6_read_X6 : ∀ w ∈ wsX60, w ∈ wsX6_read := fun w h => List.mem_cons_of_mem _ (List.mem_append_left _ (List.mem_append_right _ h))
abbrev rmX6_read : Room := { frames := 34, cells := 0, slots := 0, locals := 843 }
def vX6_read_44 (n : Nat) (Q : Sg → Int32 → Prop) : Nat → Sg → Int32 → Prop
  | 0, _, _ => False
  | f44_ + 1, M, x3 => (((16 : Int32) < x3 → (Q M (0 : Int32))) ∧ (¬ (16 : Int32) < x3 → (wX6_peek n M (fun M_1 r_2 => ((r_2 = (10016 : Int32) → (Q M_1 (0 : Int32))) ∧ (¬ r_2 = (10016 : Int32) → (wX6_readLine n M_1 (fun M_3 r_4 => ((¬ r_4 = 0 → (∀ (x_5 : Int32), x_5 = x3 + (1 : Int32) → (vX6_read_44 n Q f44_ M_3 x_5))) ∧ (r_4 = 0 → (wX6_placeOfNext n M_3 (fun M_6 r_7 => (Q M_6 ((gI M_3 21) + ((16 : Int32) * r_7)))))))))))))))
set_option maxHeartbeats 4000000 in
set_option maxRecDepth 100000 in
theorem bX6_read_44 {p : Program} {l : Launch} {e : Env} {s : State} {m : MethodId} {args : Array Value} {below : List Frame} {meth : Method} {c : Code} {D : va_G} {κ : Nat → ClassId} {η : Nat → Nat} {σ : (Nat → Nat) × (Nat → Nat)} {A : Nat → Prop} {n : Nat} {Q : Sg → Int32 → Prop} (X : CallFix p m c cX6_read 4 s args wsX6_read RX6) (hr : meth.sig.returnType = (some .int)) (hlk : meth.locks = false) : ∀ (f_ : Nat) (M : Sg) (x3 : Int32) (H : Heap) (locs : List Loc) (ls : Array Slot), vX6_read_44 n Q f_ M x3 → Wd (cN σ) D (Ky κ) A s (cw κ η n M) H locs → lv_has ls 4 [(0, .ref (η 4)), (3, .int x3)] → W p l e rmX6_read s m args below meth c H locs 0 0 (MQ below (Qi D (Ky κ) (cw κ η n) A Q) args s 0 0 A) (F0 m 44 ls []) := by
  intro f_
  induction f_ with
  | zero => intro M x3 H locs ls h; exact h.elim
  | succ f_ hK44 =>
    intro M x3 H locs ls h hw hl
    refine lv_iload_n X.1 X.2.1 dX6_read_44 rfl (lv_at hl 1 rfl) ?_
    refine lv_bipush (v := (16 : Int32)) X.1 X.2.1 dX6_read_45 (by decide) ?_
    obtain ⟨ht_, hf_⟩ := h
    refine lv_icmp_gt (tgt := 86) X.1 X.2.1 dX6_read_47 (by decide) (fun c_ => ?_) (fun c_ => ?_)
    · have h := ht_ c_
      refine lv_iconst (v := (0 : Int32)) X.1 X.2.1 dX6_read_86 (by decide) ?_
      exact r_ret X hr hlk hw h dX6_read_87
    · have h := hf_ c_
      refine lv_aload_n X.1 X.2.1 dX6_read_50 rfl (lv_at hl 0 rfl) ?_
      refine r_Vi (As := []) (rest := []) X cN_ok (kX6_peek h) (cwV 0 X.2.2.2.2 gX6_read_X6_peek rfl rfl rfl (by decide +kernel) ⟨Nat.le_of_ble_eq_true rfl, Nat.le_of_ble_eq_true rfl⟩) hw 4 6 rfl rfl rfl hl.1 rfl (Nat.le_of_ble_eq_true rfl) dX6_read_51 (fun r_2 M_1 H locs h hw => ?_)
      refine lv_sipush (v := (10016 : Int32)) X.1 X.2.1 dX6_read_54 (by decide) ?_
      obtain ⟨ht_, hf_⟩ := h
      refine lv_icmp_eq (tgt := 86) X.1 X.2.1 dX6_read_57 (by decide) (fun c_ => ?_) (fun c_ => ?_)
      · have h := ht_ c_
        refine lv_iconst (v := (0 : Int32)) X.1 X.2.1 dX6_read_86 (by decide) ?_
        exact r_ret X hr hlk hw h dX6_read_87
      · have h := hf_ c_
        refine lv_aload_n X.1 X.2.1 dX6_read_60 rfl (lv_at hl 0 rfl) ?_
        refine r_Vi (As := []) (rest := []) X cN_ok (kX6_readLine h) (cwV 0 X.2.2.2.2 gX6_read_X6_readLine rfl rfl rfl (by decide +kernel) ⟨Nat.le_of_ble_eq_true rfl, Nat.le_of_ble_eq_true rfl⟩) hw 4 6 rfl rfl rfl hl.1 rfl (Nat.le_of_ble_eq_true rfl) dX6_read_61 (fun r_4 M_3 H locs h hw => ?_)
        obtain ⟨ht_, hf_⟩ := h
        refine lv_if_ne (tgt := 80) X.1 X.2.1 dX6_read_64 (by decide) (fun c_ => ?_) (fun c_ => ?_)
        · have h := ht_ c_
          obtain ⟨x_5, ex_5⟩ : ∃ y : Int32, y = x3 + (1 : Int32) := ⟨_, rfl⟩
          have h := h x_5 ex_5
          refine lv_iinc (v := x_5) (lv' := [(3, .int x_5), (0, .ref (η 4))]) X.1 X.2.1 dX6_read_80 hl (k := 1) rfl (by rw [ex_5]; rfl) (by decide) rfl (fun ls hl => ?_)
          refine lv_goto (tgt := 44) X.1 X.2.1 dX6_read_83 (by decide) ?_
          exact hK44 M_3 x_5 _ _ _ h hw (lv_sub hl [1, 0] rfl)
        · have h := hf_ c_
          refine lv_aload_n X.1 X.2.1 dX6_read_67 rfl (lv_at hl 0 rfl) ?_
          refine r_gf X inX6_read_X6 hw 4 rfl rfl 4 (by decide) (X.2.2.2.2 (.fieldLink RX6 43 "TestHall$TextReader" "fault" "I") (by decide +kernel)) rfl rfl dX6_read_68 ?_
          refine lv_bipush (v := (16 : Int32)) X.1 X.2.1 dX6_read_71 (by decide) ?_
          refine lv_aload_n X.1 X.2.1 dX6_read_73 rfl (lv_at hl 0 rfl) ?_
          refine r_Vi (As := []) (rest := [.int (16 : Int32), .int (gI M_3 21)]) X cN_ok (kX6_placeOfNext h) (cwV 0 X.2.2.2.2 gX6_read_X6_placeOfNext rfl rfl rfl (by decide +kernel) ⟨Nat.le_of_ble_eq_true rfl, Nat.le_of_ble_eq_true rfl⟩) hw 4 6 rfl rfl rfl hl.1 rfl (Nat.le_of_ble_eq_true rfl) dX6_read_74 (fun r_7 M_6 H locs h hw => ?_)
          refine lv_imul X.1 X.2.1 dX6_read_77 ?_
          refine lv_iadd X.1 X.2.1 dX6_read_78 ?_
          exact r_ret X hr hlk hw h dX6_read_79
def wX6_read (n : Nat) (M : Sg) (Q : Sg → Int32 → Prop) : Prop := (∀ (M_1 : Sg), M_1 = sI M 25 1 → (∀ (M_2 : Sg), M_2 = sI M_1 22 (gI M_1 14) → (∀ (M_3 : Sg), M_3 = sI M_2 24 1 → (gI M_3 24 = 1 ∧ (wX5_clear n M_3 (fun M_4 => (wX6_scan n M_4 (fun M_6 => (∀ (M_8 : Sg), M_8 = sI M_6 20 (0 : Int32) → (∀ (M_9 : Sg), M_9 = sI M_8 21 (1 : Int32) → (∃ g44_ : Nat, vX6_read_44 n Q g44_ M_9 (0 : Int32))))))))))))
set_option maxHeartbeats 4000000 in
set_option maxRecDepth 100000 in
theorem kX6_read {l : Launch} {D : va_G} {κ : Nat → ClassId} {η : Nat → Nat} {σ : (Nat → Nat) × (Nat → Nat)} {n : Nat} {M : Sg} {Q : Sg → Int32 → Prop} (h : wX6_read n M Q) : Ki (cN σ) D (Ky κ) (cw κ η n) l yX6_read wsX6_read rmX6_read [.ref (η 4), .ref (η 3), .ref (η 7)] M Q := by
  refine ofW_g (Qc := fun A => Qi D (Ky κ) (cw κ η n) A Q) (cc := cX6_read) (maxL := 4) (ret := (some .int)) (by decide) rfl (Nat.le_of_ble_eq_true rfl) ?_
  intro p e s m args below meth c A ls X hr hlk hw hl
  have hl : lv_has ls 4 [(0, .ref (η 4)), (1, .ref (η 3)), (2, .ref (η 7))] := hl
  refine lv_aload_n X.1 X.2.1 dX6_read_0 rfl (lv_at hl 0 rfl) ?_
  refine lv_aload_n X.1 X.2.1 dX6_read_1 rfl (lv_at hl 1 rfl) ?_
  refine r_gf X inX6_read_X4 hw 3 rfl rfl 0 (by decide) (X.2.2.2.2 (.fieldLink RX6 18 "TestHall$Tape" "signs" "[C") (by decide +kernel)) rfl rfl dX6_read_2 ?_
  refine r_pf (ty := (.array .char)) (w' := cw κ η n (sI M 25 1)) X inX6_read_X6 tyX6_ok nmX6 hw 4 rfl rfl 5 (by decide) (X.2.2.2.2 (.fieldLink RX6 22 "TestHall$TextReader" "signs" "[C") (by decide +kernel)) rfl rfl (by decide +kernel) rfl rfl (Nat.le_of_ble_eq_true rfl) cw_signs dX6_read_5 (fun H locs hw => ?_)
  obtain ⟨M_1, eM_1⟩ : ∃ y : Sg, y = sI M 25 1 := ⟨_, rfl⟩
  rw [← eM_1] at hw
  have h := h M_1 eM_1
  refine lv_aload_n X.1 X.2.1 dX6_read_8 rfl (lv_at hl 0 rfl) ?_
  refine lv_aload_n X.1 X.2.1 dX6_read_9 rfl (lv_at hl 1 rfl) ?_
  refine r_gf X inX6_read_X4 hw 3 rfl rfl 1 (by decide) (X.2.2.2.2 (.fieldLink RX6 23 "TestHall$Tape" "length" "I") (by decide +kernel)) rfl rfl dX6_read_10 ?_
  refine r_pf (ty := .int) (w' := cw κ η n (sI M_1 22 (gI M_1 14))) X inX6_read_X6 tyX6_ok nmX6 hw 4 rfl rfl 6 (by decide) (X.2.2.2.2 (.fieldLink RX6 27 "TestHall$TextReader" "length" "I") (by decide +kernel)) rfl rfl (by decide +kernel) rfl rfl (Nat.le_of_ble_eq_true rfl) rfl dX6_read_13 (fun H locs hw => ?_)
  obtain ⟨M_2, eM_2⟩ : ∃ y : Sg, y = sI M_1 22 (gI M_1 14) := ⟨_, rfl⟩
  rw [← eM_2] at hw
  have h := h M_2 eM_2
  refine lv_aload_n X.1 X.2.1 dX6_read_16 rfl (lv_at hl 0 rfl) ?_
  refine lv_aload_n X.1 X.2.1 dX6_read_17 rfl (lv_at hl 2 rfl) ?_
  refine r_pf (ty := (.object "TestHall$Text")) (w' := cw κ η n (sI M_2 24 1)) X inX6_read_X6 tyX6_ok nmX6 hw 4 rfl rfl 7 (by decide) (X.2.2.2.2 (.fieldLink RX6 28 "TestHall$TextReader" "text" "LTestHall$Text;") (by decide +kernel)) rfl rfl (by decide +kernel) rfl rfl (Nat.le_of_ble_eq_true rfl) cw_text dX6_read_18 (fun H locs hw => ?_)
  obtain ⟨M_3, eM_3⟩ : ∃ y : Sg, y = sI M_2 24 1 := ⟨_, rfl⟩
  rw [← eM_3] at hw
  have h := h M_3 eM_3
  refine lv_aload_n X.1 X.2.1 dX6_read_21 rfl (lv_at hl 0 rfl) ?_
  obtain ⟨hg_, h⟩ := h
  refine r_gf X inX6_read_X6 hw 4 rfl rfl 7 (by decide) (X.2.2.2.2 (.fieldLink RX6 28 "TestHall$TextReader" "text" "LTestHall$Text;") (by decide +kernel)) rfl (rd_text hg_) dX6_read_22 ?_
  refine r_Vv (As := []) (rest := []) X cN_ok (kX5_clear h) (cwV 0 X.2.2.2.2 gX6_read_X5_clear rfl rfl rfl (by decide +kernel) ⟨Nat.le_of_ble_eq_true rfl, Nat.le_of_ble_eq_true rfl⟩) hw 7 5 rfl rfl rfl hl.1 rfl (Nat.le_of_ble_eq_true rfl) dX6_read_25 (fun M_4 H locs h hw => ?_)
  refine lv_aload_n X.1 X.2.1 dX6_read_28 rfl (lv_at hl 0 rfl) ?_
  refine r_Vv (As := []) (rest := []) X cN_ok (kX6_scan h) (cwV 0 X.2.2.2.2 gX6_read_X6_scan rfl rfl rfl (by decide +kernel) ⟨Nat.le_of_ble_eq_true rfl, Nat.le_of_ble_eq_true rfl⟩) hw 4 6 rfl rfl rfl hl.1 rfl (Nat.le_of_ble_eq_true rfl) dX6_read_29 (fun M_6 H locs h hw => ?_)
  refine lv_aload_n X.1 X.2.1 dX6_read_32 rfl (lv_at hl 0 rfl) ?_
  refine lv_iconst (v := (0 : Int32)) X.1 X.2.1 dX6_read_33 (by decide) ?_
  refine r_pf (ty := .int) (w' := cw κ η n (sI M_6 20 (0 : Int32))) X inX6_read_X6 tyX6_ok nmX6 hw 4 rfl rfl 3 (by decide) (X.2.2.2.2 (.fieldLink RX6 40 "TestHall$TextReader" "next" "I") (by decide +kernel)) rfl rfl (by decide +kernel) rfl rfl (Nat.le_of_ble_eq_true rfl) rfl dX6_read_34 (fun H locs hw => ?_)
  obtain ⟨M_8, eM_8⟩ : ∃ y : Sg, y = sI M_6 20 (0 : Int32) := ⟨_, rfl⟩
  rw [← eM_8] at hw
  have h := h M_8 eM_8
  refine lv_aload_n X.1 X.2.1 dX6_read_37 rfl (lv_at hl 0 rfl) ?_
  refine lv_iconst (v := (1 : Int32)) X.1 X.2.1 dX6_read_38 (by decide) ?_
  refine r_pf (ty := .int) (w' := cw κ η n (sI M_8 21 (1 : Int32))) X inX6_read_X6 tyX6_ok nmX6 hw 4 rfl rfl 4 (by decide) (X.2.2.2.2 (.fieldLink RX6 43 "TestHall$TextReader" "fault" "I") (by decide +kernel)) rfl rfl (by decide +kernel) rfl rfl (Nat.le_of_ble_eq_true rfl) rfl dX6_read_39 (fun H locs hw => ?_)
  obtain ⟨M_9, eM_9⟩ : ∃ y : Sg, y = sI M_8 21 (1 : Int32) := ⟨_, rfl⟩
  rw [← eM_9] at hw
  have h := h M_9 eM_9
  refine lv_iconst (v := (0 : Int32)) X.1 X.2.1 dX6_read_42 (by decide) ?_
  refine lv_istore_n (lv' := [(3, .int (0 : Int32)), (0, .ref (η 4)), (1, .ref (η 3)), (2, .ref (η 7))]) X.1 X.2.1 dX6_read_43 rfl hl (by decide) rfl (fun ls hl => ?_)
  obtain ⟨f_, h⟩ := h
  exact bX6_read_44 X hr hlk f_ M_9 (0 : Int32) _ _ _ h hw (lv_sub hl [1, 0] rfl)
