theorem inX0_addExaminer_X0 : ∀ w ∈ wsX00, w ∈ wsX0_addExaminer := fun w h => List.mem_cons_of_mem _ (List.mem_append_right _ h)
abbrev rmX0_addExaminer : Room := { frames := 0, cells := 0, slots := 0, locals := 0 }
def wX0_addExaminer (n : Nat) (M : Sg) (Q : Sg → Int32 → Prop) : Prop := (((gI M 0) < (8 : Int32) → (∀ (M_1 : Sg), M_1 = sI M 0 ((gI M 0) + (1 : Int32)) → (Q M_1 ((gI M_1 0) - (1 : Int32))))) ∧ (¬ (gI M 0) < (8 : Int32) → (Q M (-1 : Int32))))
set_option maxHeartbeats 4000000 in
set_option maxRecDepth 100000 in
theorem kX0_addExaminer {l : Launch} {D : va_G} {κ : Nat → ClassId} {η : Nat → Nat} {σ : (Nat → Nat) × (Nat → Nat)} {n : Nat} {M : Sg} {Q : Sg → Int32 → Prop} (h : wX0_addExaminer n M Q) : Ki (cN σ) D (Ky κ) (cw κ η n) l yX0_addExaminer wsX0_addExaminer rmX0_addExaminer [.ref (η 1)] M Q := by
  refine ofW_g (Qc := fun A => Qi D (Ky κ) (cw κ η n) A Q) (cc := cX0_addExaminer) (maxL := 1) (ret := (some .int)) (by decide) rfl (Nat.le_of_ble_eq_true rfl) ?_
  intro p e s m args below meth c A ls X hr hlk hw hl
  have hl : lv_has ls 1 [(0, .ref (η 1))] := hl
  refine lv_aload_n X.1 X.2.1 dX0_addExaminer_0 rfl (lv_at hl 0 rfl) ?_
  refine r_gf X inX0_addExaminer_X0 hw 1 rfl rfl 5 (by decide) (X.2.2.2.2 (.fieldLink RX0 34 "TestHall$Calendar" "examiners" "I") (by decide +kernel)) rfl rfl dX0_addExaminer_1 ?_
  refine lv_bipush (v := (8 : Int32)) X.1 X.2.1 dX0_addExaminer_4 (by decide) ?_
  obtain ⟨ht_, hf_⟩ := h
  refine lv_icmp_lt (tgt := 11) X.1 X.2.1 dX0_addExaminer_6 (by decide) (fun c_ => ?_) (fun c_ => ?_)
  · have h := ht_ c_
    refine lv_aload_n X.1 X.2.1 dX0_addExaminer_11 rfl (lv_at hl 0 rfl) ?_
    refine lv_dup X.1 X.2.1 dX0_addExaminer_12 rfl ?_
    refine r_gf X inX0_addExaminer_X0 hw 1 rfl rfl 5 (by decide) (X.2.2.2.2 (.fieldLink RX0 34 "TestHall$Calendar" "examiners" "I") (by decide +kernel)) rfl rfl dX0_addExaminer_13 ?_
    refine lv_iconst (v := (1 : Int32)) X.1 X.2.1 dX0_addExaminer_16 (by decide) ?_
    refine lv_iadd X.1 X.2.1 dX0_addExaminer_17 ?_
    refine r_pf (ty := .int) (w' := cw κ η n (sI M 0 ((gI M 0) + (1 : Int32)))) X inX0_addExaminer_X0 tyX0_ok nmX0 hw 1 rfl rfl 5 (by decide) (X.2.2.2.2 (.fieldLink RX0 34 "TestHall$Calendar" "examiners" "I") (by decide +kernel)) rfl rfl (by decide +kernel) rfl rfl (Nat.le_of_ble_eq_true rfl) rfl dX0_addExaminer_18 (fun H locs hw => ?_)
    obtain ⟨M_1, eM_1⟩ : ∃ y : Sg, y = sI M 0 ((gI M 0) + (1 : Int32)) := ⟨_, rfl⟩
    rw [← eM_1] at hw
    have h := h M_1 eM_1
    refine lv_aload_n X.1 X.2.1 dX0_addExaminer_21 rfl (lv_at hl 0 rfl) ?_
    refine r_gf X inX0_addExaminer_X0 hw 1 rfl rfl 5 (by decide) (X.2.2.2.2 (.fieldLink RX0 34 "TestHall$Calendar" "examiners" "I") (by decide +kernel)) rfl rfl dX0_addExaminer_22 ?_
    refine lv_iconst (v := (1 : Int32)) X.1 X.2.1 dX0_addExaminer_25 (by decide) ?_
    refine lv_isub X.1 X.2.1 dX0_addExaminer_26 ?_
    exact r_ret X hr hlk hw h dX0_addExaminer_27
  · have h := hf_ c_
    refine lv_iconst (v := (-1 : Int32)) X.1 X.2.1 dX0_addExaminer_9 (by decide) ?_
    exact r_ret X hr hlk hw h dX0_addExaminer_10

theorem inX0_isExaminer_X0 : ∀ w ∈ wsX00, w ∈ wsX0_isExaminer := fun w h => List.mem_cons_of_mem _ (List.mem_append_right _ h)
abbrev rmX0_isExaminer : Room := { frames := 0, cells := 0, slots := 0, locals := 0 }
def wX0_isExaminer (n : Nat) (M : Sg) (a1 : Int32) (Q : Sg → Int32 → Prop) : Prop := ((a1 < 0 → (Q M (0 : Int32))) ∧ (¬ a1 < 0 → (((gI M 0) ≤ a1 → (Q M (0 : Int32))) ∧ (¬ (gI M 0) ≤ a1 → (Q M (1 : Int32))))))
set_option maxHeartbeats 4000000 in
set_option maxRecDepth 100000 in
theorem kX0_isExaminer {l : Launch} {D : va_G} {κ : Nat → ClassId} {η : Nat → Nat} {σ : (Nat → Nat) × (Nat → Nat)} {n : Nat} {M : Sg} {a1 : Int32} {Q : Sg → Int32 → Prop} (h : wX0_isExaminer n M a1 Q) : Ki (cN σ) D (Ky κ) (cw κ η n) l yX0_isExaminer wsX0_isExaminer rmX0_isExaminer [.ref (η 1), .int a1] M Q := by
  refine ofW_g (Qc := fun A => Qi D (Ky κ) (cw κ η n) A Q) (cc := cX0_isExaminer) (maxL := 2) (ret := (some .boolean)) (by decide) rfl (Nat.le_of_ble_eq_true rfl) ?_
  intro p e s m args below meth c A ls X hr hlk hw hl
  have hl : lv_has ls 2 [(0, .ref (η 1)), (1, .int a1)] := hl
  refine lv_iload_n X.1 X.2.1 dX0_isExaminer_0 rfl (lv_at hl 1 rfl) ?_
  obtain ⟨ht_, hf_⟩ := h
  refine lv_if_lt (tgt := 16) X.1 X.2.1 dX0_isExaminer_1 (by decide) (fun c_ => ?_) (fun c_ => ?_)
  · have h := ht_ c_
    refine lv_iconst (v := (0 : Int32)) X.1 X.2.1 dX0_isExaminer_16 (by decide) ?_
    exact r_zret X hr hlk hw rfl h dX0_isExaminer_17
  · have h := hf_ c_
    refine lv_iload_n X.1 X.2.1 dX0_isExaminer_4 rfl (lv_at hl 1 rfl) ?_
    refine lv_aload_n X.1 X.2.1 dX0_isExaminer_5 rfl (lv_at hl 0 rfl) ?_
    refine r_gf X inX0_isExaminer_X0 hw 1 rfl rfl 5 (by decide) (X.2.2.2.2 (.fieldLink RX0 34 "TestHall$Calendar" "examiners" "I") (by decide +kernel)) rfl rfl dX0_isExaminer_6 ?_
    obtain ⟨ht_, hf_⟩ := h
    refine lv_icmp_ge (tgt := 16) X.1 X.2.1 dX0_isExaminer_9 (by decide) (fun c_ => ?_) (fun c_ => ?_)
    · have h := ht_ c_
      refine lv_iconst (v := (0 : Int32)) X.1 X.2.1 dX0_isExaminer_16 (by decide) ?_
      exact r_zret X hr hlk hw rfl h dX0_isExaminer_17
    · have h := hf_ c_
      refine lv_iconst (v := (1 : Int32)) X.1 X.2.1 dX0_isExaminer_12 (by decide) ?_
      refine lv_goto (tgt := 17) X.1 X.2.1 dX0_isExaminer_13 (by decide) ?_
      exact r_zret X hr hlk hw rfl h dX0_isExaminer_17

abbrev rmX8_isDay : Room := { frames := 0, cells := 0, slots := 0, locals := 0 }
def wX8_isDay (n : Nat) (M : Sg) (a0 : Int32) (Q : Sg → Int32 → Prop) : Prop := ((a0 < 0 → (Q M (0 : Int32))) ∧ (¬ a0 < 0 → (((60 : Int32) ≤ a0 → (Q M (0 : Int32))) ∧ (¬ (60 : Int32) ≤ a0 → (Q M (1 : Int32))))))
set_option maxHeartbeats 4000000 in
set_option maxRecDepth 100000 in
theorem kX8_isDay {l : Launch} {D : va_G} {κ : Nat → ClassId} {η : Nat → Nat} {σ : (Nat → Nat) × (Nat → Nat)} {n : Nat} {M : Sg} {a0 : Int32} {Q : Sg → Int32 → Prop} (h : wX8_isDay n M a0 Q) : Ki (cN σ) D (Ky κ) (cw κ η n) l yX8_isDay wsX8_isDay rmX8_isDay [.int a0] M Q := by
  refine ofW_g (Qc := fun A => Qi D (Ky κ) (cw κ η n) A Q) (cc := cX8_isDay) (maxL := 1) (ret := (some .boolean)) (by decide) rfl (Nat.le_of_ble_eq_true rfl) ?_
  intro p e s m args below meth c A ls X hr hlk hw hl
  have hl : lv_has ls 1 [(0, .int a0)] := hl
  refine lv_iload_n X.1 X.2.1 dX8_isDay_0 rfl (lv_at hl 0 rfl) ?_
  obtain ⟨ht_, hf_⟩ := h
  refine lv_if_lt (tgt := 14) X.1 X.2.1 dX8_isDay_1 (by decide) (fun c_ => ?_) (fun c_ => ?_)
  · have h := ht_ c_
    refine lv_iconst (v := (0 : Int32)) X.1 X.2.1 dX8_isDay_14 (by decide) ?_
    exact r_zret X hr hlk hw rfl h dX8_isDay_15
  · have h := hf_ c_
    refine lv_iload_n X.1 X.2.1 dX8_isDay_4 rfl (lv_at hl 0 rfl) ?_
    refine lv_bipush (v := (60 : Int32)) X.1 X.2.1 dX8_isDay_5 (by decide) ?_
    obtain ⟨ht_, hf_⟩ := h
    refine lv_icmp_ge (tgt := 14) X.1 X.2.1 dX8_isDay_7 (by decide) (fun c_ => ?_) (fun c_ => ?_)
    · have h := ht_ c_
      refine lv_iconst (v := (0 : Int32)) X.1 X.2.1 dX8_isDay_14 (by decide) ?_
      exact r_zret X hr hlk hw rfl h dX8_isDay_15
    · have h := hf_ c_
      refine lv_iconst (v := (1 : Int32)) X.1 X.2.1 dX8_isDay_10 (by decide) ?_
      refine lv_goto (tgt := 15) X.1 X.2.1 dX8_isDay_11 (by decide) ?_
      exact r_zret X hr hlk hw rfl h dX8_isDay_15

theorem inX0_setTown_X0 : ∀ w ∈ wsX00, w ∈ wsX0_setTown := fun w h => List.mem_cons_of_mem _ (List.mem_append_right _ h)
abbrev rmX0_setTown : Room := { frames := 1, cells := 0, slots := 0, locals := 21 }
def wX0_setTown (n : Nat) (M : Sg) (a1 : Int32) (a2 : Int32) (a3 : Int32) (Q : Sg → Prop) : Prop := (wX0_isExaminer n M a1 (fun M_1 r_2 => ((r_2 = 0 → (Q M_1)) ∧ (¬ r_2 = 0 → (wX8_isDay n M_1 a2 (fun M_3 r_4 => ((r_4 = 0 → (Q M_3)) ∧ (¬ r_4 = 0 → (vp_in (((60 : Int32) * a1) + a2) 480 ∧ (∀ (M_5 : Sg), M_5 = sA M_3 0 (((60 : Int32) * a1) + a2).toNatClampNeg a3 → (Q M_5)))))))))))
set_option maxHeartbeats 4000000 in
set_option maxRecDepth 100000 in
theorem kX0_setTown {l : Launch} {D : va_G} {κ : Nat → ClassId} {η : Nat → Nat} {σ : (Nat → Nat) × (Nat → Nat)} {n : Nat} {M : Sg} {a1 : Int32} {a2 : Int32} {a3 : Int32} {Q : Sg → Prop} (h : wX0_setTown n M a1 a2 a3 Q) : Kv (cN σ) D (Ky κ) (cw κ η n) l yX0_setTown wsX0_setTown rmX0_setTown [.ref (η 1), .int a1, .int a2, .int a3] M Q := by
  refine ofW_g (Qc := fun A => Qv D (Ky κ) (cw κ η n) A Q) (cc := cX0_setTown) (maxL := 4) (ret := none) (by decide) rfl (Nat.le_of_ble_eq_true rfl) ?_
  intro p e s m args below meth c A ls X hr hlk hw hl
  have hl : lv_has ls 4 [(0, .ref (η 1)), (1, .int a1), (2, .int a2), (3, .int a3)] := hl
  refine lv_aload_n X.1 X.2.1 dX0_setTown_0 rfl (lv_at hl 0 rfl) ?_
  refine lv_iload_n X.1 X.2.1 dX0_setTown_1 rfl (lv_at hl 1 rfl) ?_
  refine r_Vi (As := [.int a1]) (rest := []) X cN_ok (kX0_isExaminer h) (cwV 1 X.2.2.2.2 gX0_setTown_X0_isExaminer rfl rfl rfl (by decide +kernel) ⟨Nat.le_of_ble_eq_true rfl, Nat.le_of_ble_eq_true rfl⟩) hw 1 0 rfl rfl rfl hl.1 rfl (Nat.le_of_ble_eq_true rfl) dX0_setTown_2 (fun r_2 M_1 H locs h hw => ?_)
  obtain ⟨ht_, hf_⟩ := h
  refine lv_if_eq (tgt := 27) X.1 X.2.1 dX0_setTown_5 (by decide) (fun c_ => ?_) (fun c_ => ?_)
  · have h := ht_ c_
    exact r_vret X hr hlk hw h dX0_setTown_27
  · have h := hf_ c_
    refine lv_iload_n X.1 X.2.1 dX0_setTown_8 rfl (lv_at hl 2 rfl) ?_
    refine r_SNi (As := [.int a2]) (rest := []) X cN_ok (kX8_isDay h) ⟨va_cnB 1 X.2.2.2.2 gX0_setTown_X8_isDay_n42 rfl rfl rfl (cN_X0_42 hw.2.2.2.2.2) (X.2.2.2.2 _ (by decide +kernel)) (by decide +kernel) ⟨Nat.le_of_ble_eq_true rfl, Nat.le_of_ble_eq_true rfl⟩, X.2.2.2.2 _ (by decide +kernel), trivial⟩ hw rfl hl.1 rfl (Nat.le_of_ble_eq_true rfl) dX0_setTown_9 (fun r_4 M_3 H locs h hw => ?_)
    obtain ⟨ht_, hf_⟩ := h
    refine lv_if_eq (tgt := 27) X.1 X.2.1 dX0_setTown_12 (by decide) (fun c_ => ?_) (fun c_ => ?_)
    · have h := ht_ c_
      exact r_vret X hr hlk hw h dX0_setTown_27
    · have h := hf_ c_
      refine lv_aload_n X.1 X.2.1 dX0_setTown_15 rfl (lv_at hl 0 rfl) ?_
      refine r_gf X inX0_setTown_X0 hw 1 rfl rfl 0 (by decide) (X.2.2.2.2 (.fieldLink RX0 9 "TestHall$Calendar" "towns" "[I") (by decide +kernel)) rfl rfl dX0_setTown_16 ?_
      refine lv_bipush (v := (60 : Int32)) X.1 X.2.1 dX0_setTown_19 (by decide) ?_
      refine lv_iload_n X.1 X.2.1 dX0_setTown_21 rfl (lv_at hl 1 rfl) ?_
      refine lv_imul X.1 X.2.1 dX0_setTown_22 ?_
      refine lv_iload_n X.1 X.2.1 dX0_setTown_23 rfl (lv_at hl 2 rfl) ?_
      refine lv_iadd X.1 X.2.1 dX0_setTown_24 ?_
      refine lv_iload_n X.1 X.2.1 dX0_setTown_25 rfl (lv_at hl 3 rfl) ?_
      obtain ⟨hi_, h⟩ := h
      refine r_ias (w' := cw κ η n (sA M_3 0 (((60 : Int32) * a1) + a2).toNatClampNeg a3)) X hw 9 0 rfl rfl hi_ rfl dX0_setTown_26 (fun H locs hw => ?_)
      obtain ⟨M_5, eM_5⟩ : ∃ y : Sg, y = sA M_3 0 (((60 : Int32) * a1) + a2).toNatClampNeg a3 := ⟨_, rfl⟩
      rw [← eM_5] at hw
      have h := h M_5 eM_5
      exact r_vret X hr hlk hw h dX0_setTown_27

theorem inX0_townOf_X0 : ∀ w ∈ wsX00, w ∈ wsX0_townOf := fun w h => List.mem_cons_of_mem _ (List.mem_append_right _ h)
abbrev rmX0_townOf : Room := { frames := 0, cells := 0, slots := 0, locals := 0 }
def vX0_townOf_27 (n : Nat) (Q : Sg → Int32 → Prop) (M : Sg) (x1 : Int32) (x2 : Int32) (s0 : Int32) : Prop := ((s0 = 0 → (Q M (-1 : Int32))) ∧ (¬ s0 = 0 → (vp_in (((60 : Int32) * x1) + x2) 480 ∧ (Q M (gA M 0 (((60 : Int32) * x1) + x2).toNatClampNeg)))))
set_option maxHeartbeats 4000000 in
set_option maxRecDepth 100000 in
theorem bX0_townOf_27 {p : Program} {l : Launch} {e : Env} {s : State} {m : MethodId} {args : Array Value} {below : List Frame} {meth : Method} {c : Code} {D : va_G} {κ : Nat → ClassId} {η : Nat → Nat} {σ : (Nat → Nat) × (Nat → Nat)} {A : Nat → Prop} {n : Nat} {Q : Sg → Int32 → Prop} (X : CallFix p m c cX0_townOf 4 s args wsX0_townOf RX0) (hr : meth.sig.returnType = (some .int)) (hlk : meth.locks = false) : ∀ (M : Sg) (x1 : Int32) (x2 : Int32) (s0 : Int32) (H : Heap) (locs : List Loc) (ls : Array Slot), vX0_townOf_27 n Q M x1 x2 s0 → Wd (cN σ) D (Ky κ) A s (cw κ η n M) H locs → lv_has ls 4 [(0, .ref (η 1)), (1, .int x1), (2, .int x2)] → W p l e rmX0_townOf s m args below meth c H locs 0 0 (MQ below (Qi D (Ky κ) (cw κ η n) A Q) args s 0 0 A) (F0 m 27 ls [.int s0]) := by
  intro M x1 x2 s0 H locs ls h hw hl
  refine lv_istore_n (lv' := [(3, .int s0), (0, .ref (η 1)), (1, .int x1), (2, .int x2)]) X.1 X.2.1 dX0_townOf_27 rfl hl (by decide) rfl (fun ls hl => ?_)
  refine lv_iload_n X.1 X.2.1 dX0_townOf_28 rfl (lv_at hl 0 rfl) ?_
  obtain ⟨ht_, hf_⟩ := h
  refine lv_if_eq (tgt := 46) X.1 X.2.1 dX0_townOf_29 (by decide) (fun c_ => ?_) (fun c_ => ?_)
  · have h := ht_ c_
    refine lv_iconst (v := (-1 : Int32)) X.1 X.2.1 dX0_townOf_46 (by decide) ?_
    exact r_ret X hr hlk hw h dX0_townOf_47
  · have h := hf_ c_
    refine lv_aload_n X.1 X.2.1 dX0_townOf_32 rfl (lv_at hl 1 rfl) ?_
    refine r_gf X inX0_townOf_X0 hw 1 rfl rfl 0 (by decide) (X.2.2.2.2 (.fieldLink RX0 9 "TestHall$Calendar" "towns" "[I") (by decide +kernel)) rfl rfl dX0_townOf_33 ?_
    refine lv_bipush (v := (60 : Int32)) X.1 X.2.1 dX0_townOf_36 (by decide) ?_
    refine lv_iload_n X.1 X.2.1 dX0_townOf_38 rfl (lv_at hl 2 rfl) ?_
    refine lv_imul X.1 X.2.1 dX0_townOf_39 ?_
    refine lv_iload_n X.1 X.2.1 dX0_townOf_40 rfl (lv_at hl 3 rfl) ?_
    refine lv_iadd X.1 X.2.1 dX0_townOf_41 ?_
    obtain ⟨hi_, h⟩ := h
    refine r_ial X hw 9 0 rfl rfl hi_ dX0_townOf_42 ?_
    refine lv_goto (tgt := 47) X.1 X.2.1 dX0_townOf_43 (by decide) ?_
    exact r_ret X hr hlk hw h dX0_townOf_47
def vX0_townOf_26 (n : Nat) (Q : Sg → Int32 → Prop) (M : Sg) (x1 : Int32) (x2 : Int32) : Prop := (vX0_townOf_27 n Q M x1 x2 (0 : Int32))
set_option maxHeartbeats 4000000 in
set_option maxRecDepth 100000 in
theorem bX0_townOf_26 {p : Program} {l : Launch} {e : Env} {s : State} {m : MethodId} {args : Array Value} {below : List Frame} {meth : Method} {c : Code} {D : va_G} {κ : Nat → ClassId} {η : Nat → Nat} {σ : (Nat → Nat) × (Nat → Nat)} {A : Nat → Prop} {n : Nat} {Q : Sg → Int32 → Prop} (X : CallFix p m c cX0_townOf 4 s args wsX0_townOf RX0) (hr : meth.sig.returnType = (some .int)) (hlk : meth.locks = false) : ∀ (M : Sg) (x1 : Int32) (x2 : Int32) (H : Heap) (locs : List Loc) (ls : Array Slot), vX0_townOf_26 n Q M x1 x2 → Wd (cN σ) D (Ky κ) A s (cw κ η n M) H locs → lv_has ls 4 [(0, .ref (η 1)), (1, .int x1), (2, .int x2)] → W p l e rmX0_townOf s m args below meth c H locs 0 0 (MQ below (Qi D (Ky κ) (cw κ η n) A Q) args s 0 0 A) (F0 m 26 ls []) := by
  intro M x1 x2 H locs ls h hw hl
  refine lv_iconst (v := (0 : Int32)) X.1 X.2.1 dX0_townOf_26 (by decide) ?_
  exact bX0_townOf_27 X hr hlk M x1 x2 (0 : Int32) _ _ _ h hw (lv_sub hl [0, 1, 2] rfl)
def wX0_townOf (n : Nat) (M : Sg) (a1 : Int32) (a2 : Int32) (Q : Sg → Int32 → Prop) : Prop := ((a1 < 0 → (vX0_townOf_26 n Q M a1 a2)) ∧ (¬ a1 < 0 → (((gI M 0) ≤ a1 → (vX0_townOf_26 n Q M a1 a2)) ∧ (¬ (gI M 0) ≤ a1 → ((a2 < 0 → (vX0_townOf_26 n Q M a1 a2)) ∧ (¬ a2 < 0 → (((60 : Int32) ≤ a2 → (vX0_townOf_26 n Q M a1 a2)) ∧ (¬ (60 : Int32) ≤ a2 → (vX0_townOf_27 n Q M a1 a2 (1 : Int32))))))))))
set_option maxHeartbeats 4000000 in
set_option maxRecDepth 100000 in
theorem kX0_townOf {l : Launch} {D : va_G} {κ : Nat → ClassId} {η : Nat → Nat} {σ : (Nat → Nat) × (Nat → Nat)} {n : Nat} {M : Sg} {a1 : Int32} {a2 : Int32} {Q : Sg → Int32 → Prop} (h : wX0_townOf n M a1 a2 Q) : Ki (cN σ) D (Ky κ) (cw κ η n) l yX0_townOf wsX0_townOf rmX0_townOf [.ref (η 1), .int a1, .int a2] M Q := by
  refine ofW_g (Qc := fun A => Qi D (Ky κ) (cw κ η n) A Q) (cc := cX0_townOf) (maxL := 4) (ret := (some .int)) (by decide) rfl (Nat.le_of_ble_eq_true rfl) ?_
  intro p e s m args below meth c A ls X hr hlk hw hl
  have hl : lv_has ls 4 [(0, .ref (η 1)), (1, .int a1), (2, .int a2)] := hl
  refine lv_iload_n X.1 X.2.1 dX0_townOf_0 rfl (lv_at hl 1 rfl) ?_
  obtain ⟨ht_, hf_⟩ := h
  refine lv_if_lt (tgt := 26) X.1 X.2.1 dX0_townOf_1 (by decide) (fun c_ => ?_) (fun c_ => ?_)
  · have h := ht_ c_
    exact bX0_townOf_26 X hr hlk M a1 a2 _ _ _ h hw (lv_sub hl [0, 1, 2] rfl)
  · have h := hf_ c_
    refine lv_iload_n X.1 X.2.1 dX0_townOf_4 rfl (lv_at hl 1 rfl) ?_
    refine lv_aload_n X.1 X.2.1 dX0_townOf_5 rfl (lv_at hl 0 rfl) ?_
    refine r_gf X inX0_townOf_X0 hw 1 rfl rfl 5 (by decide) (X.2.2.2.2 (.fieldLink RX0 34 "TestHall$Calendar" "examiners" "I") (by decide +kernel)) rfl rfl dX0_townOf_6 ?_
    obtain ⟨ht_, hf_⟩ := h
    refine lv_icmp_ge (tgt := 26) X.1 X.2.1 dX0_townOf_9 (by decide) (fun c_ => ?_) (fun c_ => ?_)
    · have h := ht_ c_
      exact bX0_townOf_26 X hr hlk M a1 a2 _ _ _ h hw (lv_sub hl [0, 1, 2] rfl)
    · have h := hf_ c_
      refine lv_iload_n X.1 X.2.1 dX0_townOf_12 rfl (lv_at hl 2 rfl) ?_
      obtain ⟨ht_, hf_⟩ := h
      refine lv_if_lt (tgt := 26) X.1 X.2.1 dX0_townOf_13 (by decide) (fun c_ => ?_) (fun c_ => ?_)
      · have h := ht_ c_
        exact bX0_townOf_26 X hr hlk M a1 a2 _ _ _ h hw (lv_sub hl [0, 1, 2] rfl)
      · have h := hf_ c_
        refine lv_iload_n X.1 X.2.1 dX0_townOf_16 rfl (lv_at hl 2 rfl) ?_
        refine lv_bipush (v := (60 : Int32)) X.1 X.2.1 dX0_townOf_17 (by decide) ?_
        obtain ⟨ht_, hf_⟩ := h
        refine lv_icmp_ge (tgt := 26) X.1 X.2.1 dX0_townOf_19 (by decide) (fun c_ => ?_) (fun c_ => ?_)
        · have h := ht_ c_
          exact bX0_townOf_26 X hr hlk M a1 a2 _ _ _ h hw (lv_sub hl [0, 1, 2] rfl)
        · have h := hf_ c_
          refine lv_iconst (v := (1 : Int32)) X.1 X.2.1 dX0_townOf_22 (by decide) ?_
          refine lv_goto (tgt := 27) X.1 X.2.1 dX0_townOf_23 (by decide) ?_
          exact bX0_townOf_27 X hr hlk M a1 a2 (1 : Int32) _ _ _ h hw (lv_sub hl [0, 1, 2] rfl)

theorem inX0_shutDay_X0 : ∀ w ∈ wsX00, w ∈ wsX0_shutDay := fun w h => List.mem_cons_of_mem _ (List.mem_append_right _ h)
abbrev rmX0_shutDay : Room := { frames := 1, cells := 0, slots := 0, locals := 20 }
def wX0_shutDay (n : Nat) (M : Sg) (a1 : Int32) (Q : Sg → Prop) : Prop := (wX8_isDay n M a1 (fun M_1 r_2 => ((r_2 = 0 → (Q M_1)) ∧ (¬ r_2 = 0 → (vp_in a1 60 ∧ (∀ (M_3 : Sg), M_3 = sA M_1 1 a1.toNatClampNeg (vp_nar .boolean (1 : Int32)) → (Q M_3)))))))
set_option maxHeartbeats 4000000 in
set_option maxRecDepth 100000 in
theorem kX0_shutDay {l : Launch} {D : va_G} {κ : Nat → ClassId} {η : Nat → Nat} {σ : (Nat → Nat) × (Nat → Nat)} {n : Nat} {M : Sg} {a1 : Int32} {Q : Sg → Prop} (h : wX0_shutDay n M a1 Q) : Kv (cN σ) D (Ky κ) (cw κ η n) l yX0_shutDay wsX0_shutDay rmX0_shutDay [.ref (η 1), .int a1] M Q := by
  refine ofW_g (Qc := fun A => Qv D (Ky κ) (cw κ η n) A Q) (cc := cX0_shutDay) (maxL := 2) (ret := none) (by decide) rfl (Nat.le_of_ble_eq_true rfl) ?_
  intro p e s m args below meth c A ls X hr hlk hw hl
  have hl : lv_has ls 2 [(0, .ref (η 1)), (1, .int a1)] := hl
  refine lv_iload_n X.1 X.2.1 dX0_shutDay_0 rfl (lv_at hl 1 rfl) ?_
  refine r_SNi (As := [.int a1]) (rest := []) X cN_ok (kX8_isDay h) ⟨va_cnB 1 X.2.2.2.2 gX0_shutDay_X8_isDay_n42 rfl rfl rfl (cN_X0_42 hw.2.2.2.2.2) (X.2.2.2.2 _ (by decide +kernel)) (by decide +kernel) ⟨Nat.le_of_ble_eq_true rfl, Nat.le_of_ble_eq_true rfl⟩, X.2.2.2.2 _ (by decide +kernel), trivial⟩ hw rfl hl.1 rfl (Nat.le_of_ble_eq_true rfl) dX0_shutDay_1 (fun r_2 M_1 H locs h hw => ?_)
  obtain ⟨ht_, hf_⟩ := h
  refine lv_if_eq (tgt := 14) X.1 X.2.1 dX0_shutDay_4 (by decide) (fun c_ => ?_) (fun c_ => ?_)
  · have h := ht_ c_
    exact r_vret X hr hlk hw h dX0_shutDay_14
  · have h := hf_ c_
    refine lv_aload_n X.1 X.2.1 dX0_shutDay_7 rfl (lv_at hl 0 rfl) ?_
    refine r_gf X inX0_shutDay_X0 hw 1 rfl rfl 1 (by decide) (X.2.2.2.2 (.fieldLink RX0 15 "TestHall$Calendar" "shutDays" "[Z") (by decide +kernel)) rfl rfl dX0_shutDay_8 ?_
    refine lv_iload_n X.1 X.2.1 dX0_shutDay_11 rfl (lv_at hl 1 rfl) ?_
    refine lv_iconst (v := (1 : Int32)) X.1 X.2.1 dX0_shutDay_12 (by decide) ?_
    obtain ⟨hi_, h⟩ := h
    refine r_zas (w' := cw κ η n (sA M_1 1 a1.toNatClampNeg (vp_nar .boolean (1 : Int32)))) X hw 10 1 rfl rfl hi_ rfl dX0_shutDay_13 (fun H locs hw => ?_)
    obtain ⟨M_3, eM_3⟩ : ∃ y : Sg, y = sA M_1 1 a1.toNatClampNeg (vp_nar .boolean (1 : Int32)) := ⟨_, rfl⟩
    rw [← eM_3] at hw
    have h := h M_3 eM_3
    exact r_vret X hr hlk hw h dX0_shutDay_14

theorem inX0_isShut_X0 : ∀ w ∈ wsX00, w ∈ wsX0_isShut := fun w h => List.mem_cons_of_mem _ (List.mem_append_right _ h)
abbrev rmX0_isShut : Room := { frames := 1, cells := 0, slots := 0, locals := 20 }
def wX0_isShut (n : Nat) (M : Sg) (a1 : Int32) (Q : Sg → Int32 → Prop) : Prop := (wX8_isDay n M a1 (fun M_1 r_2 => ((r_2 = 0 → (Q M_1 (0 : Int32))) ∧ (¬ r_2 = 0 → (vp_in a1 60 ∧ (((gA M_1 1 a1.toNatClampNeg) = 0 → (Q M_1 (0 : Int32))) ∧ (¬ (gA M_1 1 a1.toNatClampNeg) = 0 → (Q M_1 (1 : Int32)))))))))
set_option maxHeartbeats 4000000 in
set_option maxRecDepth 100000 in
theorem kX0_isShut {l : Launch} {D : va_G} {κ : Nat → ClassId} {η : Nat → Nat} {σ : (Nat → Nat) × (Nat → Nat)} {n : Nat} {M : Sg} {a1 : Int32} {Q : Sg → Int32 → Prop} (h : wX0_isShut n M a1 Q) : Ki (cN σ) D (Ky κ) (cw κ η n) l yX0_isShut wsX0_isShut rmX0_isShut [.ref (η 1), .int a1] M Q := by
  refine ofW_g (Qc := fun A => Qi D (Ky κ) (cw κ η n) A Q) (cc := cX0_isShut) (maxL := 2) (ret := (some .boolean)) (by decide) rfl (Nat.le_of_ble_eq_true rfl) ?_
  intro p e s m args below meth c A ls X hr hlk hw hl
  have hl : lv_has ls 2 [(0, .ref (η 1)), (1, .int a1)] := hl
  refine lv_iload_n X.1 X.2.1 dX0_isShut_0 rfl (lv_at hl 1 rfl) ?_
  refine r_SNi (As := [.int a1]) (rest := []) X cN_ok (kX8_isDay h) ⟨va_cnB 1 X.2.2.2.2 gX0_isShut_X8_isDay_n42 rfl rfl rfl (cN_X0_42 hw.2.2.2.2.2) (X.2.2.2.2 _ (by decide +kernel)) (by decide +kernel) ⟨Nat.le_of_ble_eq_true rfl, Nat.le_of_ble_eq_true rfl⟩, X.2.2.2.2 _ (by decide +kernel), trivial⟩ hw rfl hl.1 rfl (Nat.le_of_ble_eq_true rfl) dX0_isShut_1 (fun r_2 M_1 H locs h hw => ?_)
  obtain ⟨ht_, hf_⟩ := h
  refine lv_if_eq (tgt := 20) X.1 X.2.1 dX0_isShut_4 (by decide) (fun c_ => ?_) (fun c_ => ?_)
  · have h := ht_ c_
    refine lv_iconst (v := (0 : Int32)) X.1 X.2.1 dX0_isShut_20 (by decide) ?_
    exact r_zret X hr hlk hw rfl h dX0_isShut_21
  · have h := hf_ c_
    refine lv_aload_n X.1 X.2.1 dX0_isShut_7 rfl (lv_at hl 0 rfl) ?_
    refine r_gf X inX0_isShut_X0 hw 1 rfl rfl 1 (by decide) (X.2.2.2.2 (.fieldLink RX0 15 "TestHall$Calendar" "shutDays" "[Z") (by decide +kernel)) rfl rfl dX0_isShut_8 ?_
    refine lv_iload_n X.1 X.2.1 dX0_isShut_11 rfl (lv_at hl 1 rfl) ?_
    obtain ⟨hi_, h⟩ := h
    refine r_zal X hw 10 1 rfl rfl hi_ dX0_isShut_12 ?_
    obtain ⟨ht_, hf_⟩ := h
    refine lv_if_eq (tgt := 20) X.1 X.2.1 dX0_isShut_13 (by decide) (fun c_ => ?_) (fun c_ => ?_)
    · have h := ht_ c_
      refine lv_iconst (v := (0 : Int32)) X.1 X.2.1 dX0_isShut_20 (by decide) ?_
      exact r_zret X hr hlk hw rfl h dX0_isShut_21
    · have h := hf_ c_
      refine lv_iconst (v := (1 : Int32)) X.1 X.2.1 dX0_isShut_16 (by decide) ?_
      refine lv_goto (tgt := 21) X.1 X.2.1 dX0_isShut_17 (by decide) ?_
      exact r_zret X hr hlk hw rfl h dX0_isShut_21

abbrev rmX0_isTravel : Room := { frames := 0, cells := 0, slots := 0, locals := 0 }
def wX0_isTravel (n : Nat) (M : Sg) (a0 : Int32) (a1 : Int32) (Q : Sg → Int32 → Prop) : Prop := ((a1 = (-1 : Int32) → (Q M (0 : Int32))) ∧ (¬ a1 = (-1 : Int32) → ((a1 = a0 → (Q M (0 : Int32))) ∧ (¬ a1 = a0 → (Q M (1 : Int32))))))
set_option maxHeartbeats 4000000 in
set_option maxRecDepth 100000 in
theorem kX0_isTravel {l : Launch} {D : va_G} {κ : Nat → ClassId} {η : Nat → Nat} {σ : (Nat → Nat) × (Nat → Nat)} {n : Nat} {M : Sg} {a0 : Int32} {a1 : Int32} {Q : Sg → Int32 → Prop} (h : wX0_isTravel n M a0 a1 Q) : Ki (cN σ) D (Ky κ) (cw κ η n) l yX0_isTravel wsX0_isTravel rmX0_isTravel [.int a0, .int a1] M Q := by
  refine ofW_g (Qc := fun A => Qi D (Ky κ) (cw κ η n) A Q) (cc := cX0_isTravel) (maxL := 2) (ret := (some .boolean)) (by decide) rfl (Nat.le_of_ble_eq_true rfl) ?_
  intro p e s m args below meth c A ls X hr hlk hw hl
  have hl : lv_has ls 2 [(0, .int a0), (1, .int a1)] := hl
  refine lv_iload_n X.1 X.2.1 dX0_isTravel_0 rfl (lv_at hl 1 rfl) ?_
  refine lv_iconst (v := (-1 : Int32)) X.1 X.2.1 dX0_isTravel_1 (by decide) ?_
  obtain ⟨ht_, hf_⟩ := h
  refine lv_icmp_eq (tgt := 14) X.1 X.2.1 dX0_isTravel_2 (by decide) (fun c_ => ?_) (fun c_ => ?_)
  · have h := ht_ c_
    refine lv_iconst (v := (0 : Int32)) X.1 X.2.1 dX0_isTravel_14 (by decide) ?_
    exact r_zret X hr hlk hw rfl h dX0_isTravel_15
  · have h := hf_ c_
    refine lv_iload_n X.1 X.2.1 dX0_isTravel_5 rfl (lv_at hl 1 rfl) ?_
    refine lv_iload_n X.1 X.2.1 dX0_isTravel_6 rfl (lv_at hl 0 rfl) ?_
    obtain ⟨ht_, hf_⟩ := h
    refine lv_icmp_eq (tgt := 14) X.1 X.2.1 dX0_isTravel_7 (by decide) (fun c_ => ?_) (fun c_ => ?_)
    · have h := ht_ c_
      refine lv_iconst (v := (0 : Int32)) X.1 X.2.1 dX0_isTravel_14 (by decide) ?_
      exact r_zret X hr hlk hw rfl h dX0_isTravel_15
    · have h := hf_ c_
      refine lv_iconst (v := (1 : Int32)) X.1 X.2.1 dX0_isTravel_10 (by decide) ?_
      refine lv_goto (tgt := 15) X.1 X.2.1 dX0_isTravel_11 (by decide) ?_
      exact r_zret X hr hlk hw rfl h dX0_isTravel_15

abbrev rmX0_hasHour : Room := { frames := 1, cells := 0, slots := 0, locals := 23 }
def wX0_hasHour (n : Nat) (M : Sg) (a1 : Int32) (a2 : Int32) (a3 : Int32) (Q : Sg → Int32 → Prop) : Prop := (wX0_townOf n M a3 a1 (fun M_1 r_2 => ((r_2 = (-1 : Int32) → (Q M_1 (0 : Int32))) ∧ (¬ r_2 = (-1 : Int32) → ((0 < a2 → (Q M_1 (1 : Int32))) ∧ (¬ 0 < a2 → (wX0_townOf n M_1 a3 (a1 - (1 : Int32)) (fun M_3 r_4 => (wX0_isTravel n M_3 r_2 r_4 (fun M_5 r_6 => ((¬ r_6 = 0 → (Q M_5 (0 : Int32))) ∧ (r_6 = 0 → (Q M_5 (1 : Int32))))))))))))))
set_option maxHeartbeats 4000000 in
set_option maxRecDepth 100000 in
theorem kX0_hasHour {l : Launch} {D : va_G} {κ : Nat → ClassId} {η : Nat → Nat} {σ : (Nat → Nat) × (Nat → Nat)} {n : Nat} {M : Sg} {a1 : Int32} {a2 : Int32} {a3 : Int32} {Q : Sg → Int32 → Prop} (h : wX0_hasHour n M a1 a2 a3 Q) : Ki (cN σ) D (Ky κ) (cw κ η n) l yX0_hasHour wsX0_hasHour rmX0_hasHour [.ref (η 1), .int a1, .int a2, .int a3] M Q := by
  refine ofW_g (Qc := fun A => Qi D (Ky κ) (cw κ η n) A Q) (cc := cX0_hasHour) (maxL := 5) (ret := (some .boolean)) (by decide) rfl (Nat.le_of_ble_eq_true rfl) ?_
  intro p e s m args below meth c A ls X hr hlk hw hl
  have hl : lv_has ls 5 [(0, .ref (η 1)), (1, .int a1), (2, .int a2), (3, .int a3)] := hl
  refine lv_aload_n X.1 X.2.1 dX0_hasHour_0 rfl (lv_at hl 0 rfl) ?_
  refine lv_iload_n X.1 X.2.1 dX0_hasHour_1 rfl (lv_at hl 3 rfl) ?_
  refine lv_iload_n X.1 X.2.1 dX0_hasHour_2 rfl (lv_at hl 1 rfl) ?_
  refine r_Vi (As := [.int a3, .int a1]) (rest := []) X cN_ok (kX0_townOf h) (cwV 2 X.2.2.2.2 gX0_hasHour_X0_townOf rfl rfl rfl (by decide +kernel) ⟨Nat.le_of_ble_eq_true rfl, Nat.le_of_ble_eq_true rfl⟩) hw 1 0 rfl rfl rfl hl.1 rfl (Nat.le_of_ble_eq_true rfl) dX0_hasHour_3 (fun r_2 M_1 H locs h hw => ?_)
  refine lv_istore (lv' := [(4, .int r_2), (0, .ref (η 1)), (1, .int a1), (2, .int a2), (3, .int a3)]) X.1 X.2.1 dX0_hasHour_6 hl (by decide) rfl (fun ls hl => ?_)
  refine lv_iload X.1 X.2.1 dX0_hasHour_8 (lv_at hl 0 rfl) ?_
  refine lv_iconst (v := (-1 : Int32)) X.1 X.2.1 dX0_hasHour_10 (by decide) ?_
  obtain ⟨ht_, hf_⟩ := h
  refine lv_icmp_eq (tgt := 38) X.1 X.2.1 dX0_hasHour_11 (by decide) (fun c_ => ?_) (fun c_ => ?_)
  · have h := ht_ c_
    refine lv_iconst (v := (0 : Int32)) X.1 X.2.1 dX0_hasHour_38 (by decide) ?_
    exact r_zret X hr hlk hw rfl h dX0_hasHour_39
  · have h := hf_ c_
    refine lv_iload_n X.1 X.2.1 dX0_hasHour_14 rfl (lv_at hl 3 rfl) ?_
    obtain ⟨ht_, hf_⟩ := h
    refine lv_if_gt (tgt := 34) X.1 X.2.1 dX0_hasHour_15 (by decide) (fun c_ => ?_) (fun c_ => ?_)
    · have h := ht_ c_
      refine lv_iconst (v := (1 : Int32)) X.1 X.2.1 dX0_hasHour_34 (by decide) ?_
      refine lv_goto (tgt := 39) X.1 X.2.1 dX0_hasHour_35 (by decide) ?_
      exact r_zret X hr hlk hw rfl h dX0_hasHour_39
    · have h := hf_ c_
      refine lv_iload X.1 X.2.1 dX0_hasHour_18 (lv_at hl 0 rfl) ?_
      refine lv_aload_n X.1 X.2.1 dX0_hasHour_20 rfl (lv_at hl 1 rfl) ?_
      refine lv_iload_n X.1 X.2.1 dX0_hasHour_21 rfl (lv_at hl 4 rfl) ?_
      refine lv_iload_n X.1 X.2.1 dX0_hasHour_22 rfl (lv_at hl 2 rfl) ?_
      refine lv_iconst (v := (1 : Int32)) X.1 X.2.1 dX0_hasHour_23 (by decide) ?_
      refine lv_isub X.1 X.2.1 dX0_hasHour_24 ?_
      refine r_Vi (As := [.int a3, .int (a1 - (1 : Int32))]) (rest := [.int r_2]) X cN_ok (kX0_townOf h) (cwV 2 X.2.2.2.2 gX0_hasHour_X0_townOf rfl rfl rfl (by decide +kernel) ⟨Nat.le_of_ble_eq_true rfl, Nat.le_of_ble_eq_true rfl⟩) hw 1 0 rfl rfl rfl hl.1 rfl (Nat.le_of_ble_eq_true rfl) dX0_hasHour_25 (fun r_4 M_3 H locs h hw => ?_)
      refine r_Si (As := [.int r_2, .int r_4]) (rest := []) X cN_ok (kX0_isTravel h) (va_cwS 2 X.2.2.2.2 gX0_hasHour_X0_isTravel rfl rfl rfl (by decide +kernel) ⟨Nat.le_of_ble_eq_true rfl, Nat.le_of_ble_eq_true rfl⟩) hw rfl hl.1 rfl (Nat.le_of_ble_eq_true rfl) dX0_hasHour_28 (fun r_6 M_5 H locs h hw => ?_)
      obtain ⟨ht_, hf_⟩ := h
      refine lv_if_ne (tgt := 38) X.1 X.2.1 dX0_hasHour_31 (by decide) (fun c_ => ?_) (fun c_ => ?_)
      · have h := ht_ c_
        refine lv_iconst (v := (0 : Int32)) X.1 X.2.1 dX0_hasHour_38 (by decide) ?_
        exact r_zret X hr hlk hw rfl h dX0_hasHour_39
      · have h := hf_ c_
        refine lv_iconst (v := (1 : Int32)) X.1 X.2.1 dX0_hasHour_34 (by decide) ?_
        refine lv_goto (tgt := 39) X.1 X.2.1 dX0_hasHour_35 (by decide) ?_
        exact r_zret X hr hlk hw rfl h dX0_hasHour_39

theorem inX0_isSlot_X0 : ∀ w ∈ wsX00, w ∈ wsX0_isSlot := fun w h => List.mem_cons_of_mem _ (List.mem_append_right _ h)
abbrev rmX0_isSlot : Room := { frames := 0, cells := 0, slots := 0, locals := 0 }
def wX0_isSlot (n : Nat) (M : Sg) (a1 : Int32) (Q : Sg → Int32 → Prop) : Prop := ((a1 < 0 → (Q M (0 : Int32))) ∧ (¬ a1 < 0 → (((2880 : Int32) ≤ a1 → (Q M (0 : Int32))) ∧ (¬ (2880 : Int32) ≤ a1 → (Q M (1 : Int32))))))
set_option maxHeartbeats 4000000 in
set_option maxRecDepth 100000 in
theorem kX0_isSlot {l : Launch} {D : va_G} {κ : Nat → ClassId} {η : Nat → Nat} {σ : (Nat → Nat) × (Nat → Nat)} {n : Nat} {M : Sg} {a1 : Int32} {Q : Sg → Int32 → Prop} (h : wX0_isSlot n M a1 Q) : Ki (cN σ) D (Ky κ) (cw κ η n) l yX0_isSlot wsX0_isSlot rmX0_isSlot [.ref (η 1), .int a1] M Q := by
  refine ofW_g (Qc := fun A => Qi D (Ky κ) (cw κ η n) A Q) (cc := cX0_isSlot) (maxL := 2) (ret := (some .boolean)) (by decide) rfl (Nat.le_of_ble_eq_true rfl) ?_
  intro p e s m args below meth c A ls X hr hlk hw hl
  have hl : lv_has ls 2 [(0, .ref (η 1)), (1, .int a1)] := hl
  refine lv_iload_n X.1 X.2.1 dX0_isSlot_0 rfl (lv_at hl 1 rfl) ?_
  obtain ⟨ht_, hf_⟩ := h
  refine lv_if_lt (tgt := 17) X.1 X.2.1 dX0_isSlot_1 (by decide) (fun c_ => ?_) (fun c_ => ?_)
  · have h := ht_ c_
    refine lv_iconst (v := (0 : Int32)) X.1 X.2.1 dX0_isSlot_17 (by decide) ?_
    exact r_zret X hr hlk hw rfl h dX0_isSlot_18
  · have h := hf_ c_
    refine lv_iload_n X.1 X.2.1 dX0_isSlot_4 rfl (lv_at hl 1 rfl) ?_
    refine lv_aload_n X.1 X.2.1 dX0_isSlot_5 rfl (lv_at hl 0 rfl) ?_
    refine r_gf X inX0_isSlot_X0 hw 1 rfl rfl 2 (by decide) (X.2.2.2.2 (.fieldLink RX0 19 "TestHall$Calendar" "booked" "[I") (by decide +kernel)) rfl rfl dX0_isSlot_6 ?_
    refine r_len (v := (2880 : Int32)) X hw 11 0 rfl rfl (by show Int32.ofNat 2880 = 2880; decide) dX0_isSlot_9 ?_
    obtain ⟨ht_, hf_⟩ := h
    refine lv_icmp_ge (tgt := 17) X.1 X.2.1 dX0_isSlot_10 (by decide) (fun c_ => ?_) (fun c_ => ?_)
    · have h := ht_ c_
      refine lv_iconst (v := (0 : Int32)) X.1 X.2.1 dX0_isSlot_17 (by decide) ?_
      exact r_zret X hr hlk hw rfl h dX0_isSlot_18
    · have h := hf_ c_
      refine lv_iconst (v := (1 : Int32)) X.1 X.2.1 dX0_isSlot_13 (by decide) ?_
      refine lv_goto (tgt := 18) X.1 X.2.1 dX0_isSlot_14 (by decide) ?_
      exact r_zret X hr hlk hw rfl h dX0_isSlot_18

theorem inX0_bookedIn_X0 : ∀ w ∈ wsX00, w ∈ wsX0_bookedIn := fun w h => List.mem_cons_of_mem _ (List.mem_append_right _ h)
abbrev rmX0_bookedIn : Room := { frames := 1, cells := 0, slots := 0, locals := 21 }
def wX0_bookedIn (n : Nat) (M : Sg) (a1 : Int32) (Q : Sg → Int32 → Prop) : Prop := (wX0_isSlot n M a1 (fun M_1 r_2 => ((r_2 = 0 → (Q M_1 (-1 : Int32))) ∧ (¬ r_2 = 0 → (vp_in a1 2880 ∧ (Q M_1 (gA M_1 2 a1.toNatClampNeg)))))))
set_option maxHeartbeats 4000000 in
set_option maxRecDepth 100000 in
theorem kX0_bookedIn {l : Launch} {D : va_G} {κ : Nat → ClassId} {η : Nat → Nat} {σ : (Nat → Nat) × (Nat → Nat)} {n : Nat} {M : Sg} {a1 : Int32} {Q : Sg → Int32 → Prop} (h : wX0_bookedIn n M a1 Q) : Ki (cN σ) D (Ky κ) (cw κ η n) l yX0_bookedIn wsX0_bookedIn rmX0_bookedIn [.ref (η 1), .int a1] M Q := by
  refine ofW_g (Qc := fun A => Qi D (Ky κ) (cw κ η n) A Q) (cc := cX0_bookedIn) (maxL := 2) (ret := (some .int)) (by decide) rfl (Nat.le_of_ble_eq_true rfl) ?_
  intro p e s m args below meth c A ls X hr hlk hw hl
  have hl : lv_has ls 2 [(0, .ref (η 1)), (1, .int a1)] := hl
  refine lv_aload_n X.1 X.2.1 dX0_bookedIn_0 rfl (lv_at hl 0 rfl) ?_
  refine lv_iload_n X.1 X.2.1 dX0_bookedIn_1 rfl (lv_at hl 1 rfl) ?_
  refine r_Vi (As := [.int a1]) (rest := []) X cN_ok (kX0_isSlot h) (cwV 1 X.2.2.2.2 gX0_bookedIn_X0_isSlot rfl rfl rfl (by decide +kernel) ⟨Nat.le_of_ble_eq_true rfl, Nat.le_of_ble_eq_true rfl⟩) hw 1 0 rfl rfl rfl hl.1 rfl (Nat.le_of_ble_eq_true rfl) dX0_bookedIn_2 (fun r_2 M_1 H locs h hw => ?_)
  obtain ⟨ht_, hf_⟩ := h
  refine lv_if_eq (tgt := 17) X.1 X.2.1 dX0_bookedIn_5 (by decide) (fun c_ => ?_) (fun c_ => ?_)
  · have h := ht_ c_
    refine lv_iconst (v := (-1 : Int32)) X.1 X.2.1 dX0_bookedIn_17 (by decide) ?_
    exact r_ret X hr hlk hw h dX0_bookedIn_18
  · have h := hf_ c_
    refine lv_aload_n X.1 X.2.1 dX0_bookedIn_8 rfl (lv_at hl 0 rfl) ?_
    refine r_gf X inX0_bookedIn_X0 hw 1 rfl rfl 2 (by decide) (X.2.2.2.2 (.fieldLink RX0 19 "TestHall$Calendar" "booked" "[I") (by decide +kernel)) rfl rfl dX0_bookedIn_9 ?_
    refine lv_iload_n X.1 X.2.1 dX0_bookedIn_12 rfl (lv_at hl 1 rfl) ?_
    obtain ⟨hi_, h⟩ := h
    refine r_ial X hw 11 0 rfl rfl hi_ dX0_bookedIn_13 ?_
    refine lv_goto (tgt := 18) X.1 X.2.1 dX0_bookedIn_14 (by decide) ?_
    exact r_ret X hr hlk hw h dX0_bookedIn_18

theorem inX0_setBooked_X0 : ∀ w ∈ wsX00, w ∈ wsX0_setBooked := fun w h => List.mem_cons_of_mem _ (List.mem_append_right _ h)
abbrev rmX0_setBooked : Room := { frames := 1, cells := 0, slots := 0, locals := 21 }
def wX0_setBooked (n : Nat) (M : Sg) (a1 : Int32) (a2 : Int32) (Q : Sg → Prop) : Prop := (wX0_isSlot n M a1 (fun M_1 r_2 => ((r_2 = 0 → (Q M_1)) ∧ (¬ r_2 = 0 → (vp_in a1 2880 ∧ (∀ (M_3 : Sg), M_3 = sA M_1 2 a1.toNatClampNeg a2 → (Q M_3)))))))
set_option maxHeartbeats 4000000 in
set_option maxRecDepth 100000 in
theorem kX0_setBooked {l : Launch} {D : va_G} {κ : Nat → ClassId} {η : Nat → Nat} {σ : (Nat → Nat) × (Nat → Nat)} {n : Nat} {M : Sg} {a1 : Int32} {a2 : Int32} {Q : Sg → Prop} (h : wX0_setBooked n M a1 a2 Q) : Kv (cN σ) D (Ky κ) (cw κ η n) l yX0_setBooked wsX0_setBooked rmX0_setBooked [.ref (η 1), .int a1, .int a2] M Q := by
  refine ofW_g (Qc := fun A => Qv D (Ky κ) (cw κ η n) A Q) (cc := cX0_setBooked) (maxL := 3) (ret := none) (by decide) rfl (Nat.le_of_ble_eq_true rfl) ?_
  intro p e s m args below meth c A ls X hr hlk hw hl
  have hl : lv_has ls 3 [(0, .ref (η 1)), (1, .int a1), (2, .int a2)] := hl
  refine lv_aload_n X.1 X.2.1 dX0_setBooked_0 rfl (lv_at hl 0 rfl) ?_
  refine lv_iload_n X.1 X.2.1 dX0_setBooked_1 rfl (lv_at hl 1 rfl) ?_
  refine r_Vi (As := [.int a1]) (rest := []) X cN_ok (kX0_isSlot h) (cwV 1 X.2.2.2.2 gX0_setBooked_X0_isSlot rfl rfl rfl (by decide +kernel) ⟨Nat.le_of_ble_eq_true rfl, Nat.le_of_ble_eq_true rfl⟩) hw 1 0 rfl rfl rfl hl.1 rfl (Nat.le_of_ble_eq_true rfl) dX0_setBooked_2 (fun r_2 M_1 H locs h hw => ?_)
  obtain ⟨ht_, hf_⟩ := h
  refine lv_if_eq (tgt := 15) X.1 X.2.1 dX0_setBooked_5 (by decide) (fun c_ => ?_) (fun c_ => ?_)
  · have h := ht_ c_
    exact r_vret X hr hlk hw h dX0_setBooked_15
  · have h := hf_ c_
    refine lv_aload_n X.1 X.2.1 dX0_setBooked_8 rfl (lv_at hl 0 rfl) ?_
    refine r_gf X inX0_setBooked_X0 hw 1 rfl rfl 2 (by decide) (X.2.2.2.2 (.fieldLink RX0 19 "TestHall$Calendar" "booked" "[I") (by decide +kernel)) rfl rfl dX0_setBooked_9 ?_
    refine lv_iload_n X.1 X.2.1 dX0_setBooked_12 rfl (lv_at hl 1 rfl) ?_
    refine lv_iload_n X.1 X.2.1 dX0_setBooked_13 rfl (lv_at hl 2 rfl) ?_
    obtain ⟨hi_, h⟩ := h
    refine r_ias (w' := cw κ η n (sA M_1 2 a1.toNatClampNeg a2)) X hw 11 0 rfl rfl hi_ rfl dX0_setBooked_14 (fun H locs hw => ?_)
    obtain ⟨M_3, eM_3⟩ : ∃ y : Sg, y = sA M_1 2 a1.toNatClampNeg a2 := ⟨_, rfl⟩
    rw [← eM_3] at hw
    have h := h M_3 eM_3
    exact r_vret X hr hlk hw h dX0_setBooked_15

abbrev rmX8_dayOf : Room := { frames := 0, cells := 0, slots := 0, locals := 0 }
def wX8_dayOf (n : Nat) (M : Sg) (a0 : Int32) (Q : Sg → Int32 → Prop) : Prop := (Q M (a0 / (48 : Int32)))
set_option maxHeartbeats 4000000 in
set_option maxRecDepth 100000 in
theorem kX8_dayOf {l : Launch} {D : va_G} {κ : Nat → ClassId} {η : Nat → Nat} {σ : (Nat → Nat) × (Nat → Nat)} {n : Nat} {M : Sg} {a0 : Int32} {Q : Sg → Int32 → Prop} (h : wX8_dayOf n M a0 Q) : Ki (cN σ) D (Ky κ) (cw κ η n) l yX8_dayOf wsX8_dayOf rmX8_dayOf [.int a0] M Q := by
  refine ofW_g (Qc := fun A => Qi D (Ky κ) (cw κ η n) A Q) (cc := cX8_dayOf) (maxL := 1) (ret := (some .int)) (by decide) rfl (Nat.le_of_ble_eq_true rfl) ?_
  intro p e s m args below meth c A ls X hr hlk hw hl
  have hl : lv_has ls 1 [(0, .int a0)] := hl
  refine lv_iload_n X.1 X.2.1 dX8_dayOf_0 rfl (lv_at hl 0 rfl) ?_
  refine lv_bipush (v := (48 : Int32)) X.1 X.2.1 dX8_dayOf_1 (by decide) ?_
  refine lv_idiv X.1 X.2.1 dX8_dayOf_3 (by decide) ?_
  exact r_ret X hr hlk hw h dX8_dayOf_4

abbrev rmX8_examinerOf : Room := { frames := 0, cells := 0, slots := 0, locals := 0 }
def wX8_examinerOf (n : Nat) (M : Sg) (a0 : Int32) (Q : Sg → Int32 → Prop) : Prop := (Q M (a0 - a0 / (8 : Int32) * (8 : Int32)))
set_option maxHeartbeats 4000000 in
set_option maxRecDepth 100000 in
theorem kX8_examinerOf {l : Launch} {D : va_G} {κ : Nat → ClassId} {η : Nat → Nat} {σ : (Nat → Nat) × (Nat → Nat)} {n : Nat} {M : Sg} {a0 : Int32} {Q : Sg → Int32 → Prop} (h : wX8_examinerOf n M a0 Q) : Ki (cN σ) D (Ky κ) (cw κ η n) l yX8_examinerOf wsX8_examinerOf rmX8_examinerOf [.int a0] M Q := by
  refine ofW_g (Qc := fun A => Qi D (Ky κ) (cw κ η n) A Q) (cc := cX8_examinerOf) (maxL := 1) (ret := (some .int)) (by decide) rfl (Nat.le_of_ble_eq_true rfl) ?_
  intro p e s m args below meth c A ls X hr hlk hw hl
  have hl : lv_has ls 1 [(0, .int a0)] := hl
  refine lv_iload_n X.1 X.2.1 dX8_examinerOf_0 rfl (lv_at hl 0 rfl) ?_
  refine lv_bipush (v := (8 : Int32)) X.1 X.2.1 dX8_examinerOf_1 (by decide) ?_
  refine lv_irem X.1 X.2.1 dX8_examinerOf_3 (by decide) ?_
  exact r_ret X hr hlk hw h dX8_examinerOf_4

abbrev rmX8_hourOf : Room := { frames := 0, cells := 0, slots := 0, locals := 0 }
def wX8_hourOf (n : Nat) (M : Sg) (a0 : Int32) (Q : Sg → Int32 → Prop) : Prop := (Q M ((a0 - a0 / (48 : Int32) * (48 : Int32)) / (8 : Int32)))
set_option maxHeartbeats 4000000 in
set_option maxRecDepth 100000 in
theorem kX8_hourOf {l : Launch} {D : va_G} {κ : Nat → ClassId} {η : Nat → Nat} {σ : (Nat → Nat) × (Nat → Nat)} {n : Nat} {M : Sg} {a0 : Int32} {Q : Sg → Int32 → Prop} (h : wX8_hourOf n M a0 Q) : Ki (cN σ) D (Ky κ) (cw κ η n) l yX8_hourOf wsX8_hourOf rmX8_hourOf [.int a0] M Q := by
  refine ofW_g (Qc := fun A => Qi D (Ky κ) (cw κ η n) A Q) (cc := cX8_hourOf) (maxL := 1) (ret := (some .int)) (by decide) rfl (Nat.le_of_ble_eq_true rfl) ?_
  intro p e s m args below meth c A ls X hr hlk hw hl
  have hl : lv_has ls 1 [(0, .int a0)] := hl
  refine lv_iload_n X.1 X.2.1 dX8_hourOf_0 rfl (lv_at hl 0 rfl) ?_
  refine lv_bipush (v := (48 : Int32)) X.1 X.2.1 dX8_hourOf_1 (by decide) ?_
  refine lv_irem X.1 X.2.1 dX8_hourOf_3 (by decide) ?_
  refine lv_bipush (v := (8 : Int32)) X.1 X.2.1 dX8_hourOf_4 (by decide) ?_
  refine lv_idiv X.1 X.2.1 dX8_hourOf_6 (by decide) ?_
  exact r_ret X hr hlk hw h dX8_hourOf_7

theorem inX0_isFree_X0 : ∀ w ∈ wsX00, w ∈ wsX0_isFree := fun w h => List.mem_cons_of_mem _ (List.mem_append_right _ h)
abbrev rmX0_isFree : Room := { frames := 2, cells := 0, slots := 0, locals := 47 }
def wX0_isFree (n : Nat) (M : Sg) (a1 : Int32) (Q : Sg → Int32 → Prop) : Prop := (wX0_isSlot n M a1 (fun M_1 r_2 => ((r_2 = 0 → (Q M_1 (0 : Int32))) ∧ (¬ r_2 = 0 → (vp_in a1 2880 ∧ (((gA M_1 2 a1.toNatClampNeg) = (-1 : Int32) → (wX8_dayOf n M_1 a1 (fun M_3 r_4 => ((r_4 ≤ (gI M_3 1) → (Q M_3 (0 : Int32))) ∧ (¬ r_4 ≤ (gI M_3 1) → (vp_in r_4 60 ∧ ((¬ (gA M_3 1 r_4.toNatClampNeg) = 0 → (Q M_3 (0 : Int32))) ∧ ((gA M_3 1 r_4.toNatClampNeg) = 0 → (wX8_hourOf n M_3 a1 (fun M_5 r_6 => (wX8_examinerOf n M_5 a1 (fun M_7 r_8 => (wX0_hasHour n M_7 r_4 r_6 r_8 (fun M_9 r_10 => ((r_10 = 0 → (Q M_9 (0 : Int32))) ∧ (¬ r_10 = 0 → (Q M_9 (1 : Int32)))))))))))))))))) ∧ (¬ (gA M_1 2 a1.toNatClampNeg) = (-1 : Int32) → (Q M_1 (0 : Int32)))))))))
set_option maxHeartbeats 4000000 in
set_option maxRecDepth 100000 in
theorem kX0_isFree {l : Launch} {D : va_G} {κ : Nat → ClassId} {η : Nat → Nat} {σ : (Nat → Nat) × (Nat → Nat)} {n : Nat} {M : Sg} {a1 : Int32} {Q : Sg → Int32 → Prop} (h : wX0_isFree n M a1 Q) : Ki (cN σ) D (Ky κ) (cw κ η n) l yX0_isFree wsX0_isFree rmX0_isFree [.ref (η 1), .int a1] M Q := by
  refine ofW_g (Qc := fun A => Qi D (Ky κ) (cw κ η n) A Q) (cc := cX0_isFree) (maxL := 3) (ret := (some .boolean)) (by decide) rfl (Nat.le_of_ble_eq_true rfl) ?_
  intro p e s m args below meth c A ls X hr hlk hw hl
  have hl : lv_has ls 3 [(0, .ref (η 1)), (1, .int a1)] := hl
  refine lv_aload_n X.1 X.2.1 dX0_isFree_0 rfl (lv_at hl 0 rfl) ?_
  refine lv_iload_n X.1 X.2.1 dX0_isFree_1 rfl (lv_at hl 1 rfl) ?_
  refine r_Vi (As := [.int a1]) (rest := []) X cN_ok (kX0_isSlot h) (cwV 1 X.2.2.2.2 gX0_isFree_X0_isSlot rfl rfl rfl (by decide +kernel) ⟨Nat.le_of_ble_eq_true rfl, Nat.le_of_ble_eq_true rfl⟩) hw 1 0 rfl rfl rfl hl.1 rfl (Nat.le_of_ble_eq_true rfl) dX0_isFree_2 (fun r_2 M_1 H locs h hw => ?_)
  obtain ⟨ht_, hf_⟩ := h
  refine lv_if_eq (tgt := 18) X.1 X.2.1 dX0_isFree_5 (by decide) (fun c_ => ?_) (fun c_ => ?_)
  · have h := ht_ c_
    refine lv_iconst (v := (0 : Int32)) X.1 X.2.1 dX0_isFree_18 (by decide) ?_
    exact r_zret X hr hlk hw rfl h dX0_isFree_19
  · have h := hf_ c_
    refine lv_aload_n X.1 X.2.1 dX0_isFree_8 rfl (lv_at hl 0 rfl) ?_
    refine r_gf X inX0_isFree_X0 hw 1 rfl rfl 2 (by decide) (X.2.2.2.2 (.fieldLink RX0 19 "TestHall$Calendar" "booked" "[I") (by decide +kernel)) rfl rfl dX0_isFree_9 ?_
    refine lv_iload_n X.1 X.2.1 dX0_isFree_12 rfl (lv_at hl 1 rfl) ?_
    obtain ⟨hi_, h⟩ := h
    refine r_ial X hw 11 0 rfl rfl hi_ dX0_isFree_13 ?_
    refine lv_iconst (v := (-1 : Int32)) X.1 X.2.1 dX0_isFree_14 (by decide) ?_
    obtain ⟨ht_, hf_⟩ := h
    refine lv_icmp_eq (tgt := 20) X.1 X.2.1 dX0_isFree_15 (by decide) (fun c_ => ?_) (fun c_ => ?_)
    · have h := ht_ c_
      refine lv_iload_n X.1 X.2.1 dX0_isFree_20 rfl (lv_at hl 1 rfl) ?_
      refine r_SNi (As := [.int a1]) (rest := []) X cN_ok (kX8_dayOf h) ⟨va_cnB 1 X.2.2.2.2 gX0_isFree_X8_dayOf_n56 rfl rfl rfl (cN_X0_56 hw.2.2.2.2.2) (X.2.2.2.2 _ (by decide +kernel)) (by decide +kernel) ⟨Nat.le_of_ble_eq_true rfl, Nat.le_of_ble_eq_true rfl⟩, X.2.2.2.2 _ (by decide +kernel), trivial⟩ hw rfl hl.1 rfl (Nat.le_of_ble_eq_true rfl) dX0_isFree_21 (fun r_4 M_3 H locs h hw => ?_)
      refine lv_istore_n (lv' := [(2, .int r_4), (0, .ref (η 1)), (1, .int a1)]) X.1 X.2.1 dX0_isFree_24 rfl hl (by decide) rfl (fun ls hl => ?_)
      refine lv_iload_n X.1 X.2.1 dX0_isFree_25 rfl (lv_at hl 0 rfl) ?_
      refine lv_aload_n X.1 X.2.1 dX0_isFree_26 rfl (lv_at hl 1 rfl) ?_
      refine r_gf X inX0_isFree_X0 hw 1 rfl rfl 6 (by decide) (X.2.2.2.2 (.fieldLink RX0 60 "TestHall$Calendar" "now" "I") (by decide +kernel)) rfl rfl dX0_isFree_27 ?_
      obtain ⟨ht_, hf_⟩ := h
      refine lv_icmp_le (tgt := 62) X.1 X.2.1 dX0_isFree_30 (by decide) (fun c_ => ?_) (fun c_ => ?_)
      · have h := ht_ c_
        refine lv_iconst (v := (0 : Int32)) X.1 X.2.1 dX0_isFree_62 (by decide) ?_
        exact r_zret X hr hlk hw rfl h dX0_isFree_63
      · have h := hf_ c_
        refine lv_aload_n X.1 X.2.1 dX0_isFree_33 rfl (lv_at hl 1 rfl) ?_
        refine r_gf X inX0_isFree_X0 hw 1 rfl rfl 1 (by decide) (X.2.2.2.2 (.fieldLink RX0 15 "TestHall$Calendar" "shutDays" "[Z") (by decide +kernel)) rfl rfl dX0_isFree_34 ?_
        refine lv_iload_n X.1 X.2.1 dX0_isFree_37 rfl (lv_at hl 0 rfl) ?_
        obtain ⟨hi_, h⟩ := h
        refine r_zal X hw 10 1 rfl rfl hi_ dX0_isFree_38 ?_
        obtain ⟨ht_, hf_⟩ := h
        refine lv_if_ne (tgt := 62) X.1 X.2.1 dX0_isFree_39 (by decide) (fun c_ => ?_) (fun c_ => ?_)
        · have h := ht_ c_
          refine lv_iconst (v := (0 : Int32)) X.1 X.2.1 dX0_isFree_62 (by decide) ?_
          exact r_zret X hr hlk hw rfl h dX0_isFree_63
        · have h := hf_ c_
          refine lv_aload_n X.1 X.2.1 dX0_isFree_42 rfl (lv_at hl 1 rfl) ?_
          refine lv_iload_n X.1 X.2.1 dX0_isFree_43 rfl (lv_at hl 0 rfl) ?_
          refine lv_iload_n X.1 X.2.1 dX0_isFree_44 rfl (lv_at hl 2 rfl) ?_
          refine r_SNi (As := [.int a1]) (rest := [.int r_4, .ref (η 1)]) X cN_ok (kX8_hourOf h) ⟨va_cnB 1 X.2.2.2.2 gX0_isFree_X8_hourOf_n63 rfl rfl rfl (cN_X0_63 hw.2.2.2.2.2) (X.2.2.2.2 _ (by decide +kernel)) (by decide +kernel) ⟨Nat.le_of_ble_eq_true rfl, Nat.le_of_ble_eq_true rfl⟩, X.2.2.2.2 _ (by decide +kernel), trivial⟩ hw rfl hl.1 rfl (Nat.le_of_ble_eq_true rfl) dX0_isFree_45 (fun r_6 M_5 H locs h hw => ?_)
          refine lv_iload_n X.1 X.2.1 dX0_isFree_48 rfl (lv_at hl 2 rfl) ?_
          refine r_SNi (As := [.int a1]) (rest := [.int r_6, .int r_4, .ref (η 1)]) X cN_ok (kX8_examinerOf h) ⟨va_cnB 1 X.2.2.2.2 gX0_isFree_X8_examinerOf_n66 rfl rfl rfl (cN_X0_66 hw.2.2.2.2.2) (X.2.2.2.2 _ (by decide +kernel)) (by decide +kernel) ⟨Nat.le_of_ble_eq_true rfl, Nat.le_of_ble_eq_true rfl⟩, X.2.2.2.2 _ (by decide +kernel), trivial⟩ hw rfl hl.1 rfl (Nat.le_of_ble_eq_true rfl) dX0_isFree_49 (fun r_8 M_7 H locs h hw => ?_)
          refine r_Vi (As := [.int r_4, .int r_6, .int r_8]) (rest := []) X cN_ok (kX0_hasHour h) (cwV 3 X.2.2.2.2 gX0_isFree_X0_hasHour rfl rfl rfl (by decide +kernel) ⟨Nat.le_of_ble_eq_true rfl, Nat.le_of_ble_eq_true rfl⟩) hw 1 0 rfl rfl rfl hl.1 rfl (Nat.le_of_ble_eq_true rfl) dX0_isFree_52 (fun r_10 M_9 H locs h hw => ?_)
          obtain ⟨ht_, hf_⟩ := h
          refine lv_if_eq (tgt := 62) X.1 X.2.1 dX0_isFree_55 (by decide) (fun c_ => ?_) (fun c_ => ?_)
          · have h := ht_ c_
            refine lv_iconst (v := (0 : Int32)) X.1 X.2.1 dX0_isFree_62 (by decide) ?_
            exact r_zret X hr hlk hw rfl h dX0_isFree_63
          · have h := hf_ c_
            refine lv_iconst (v := (1 : Int32)) X.1 X.2.1 dX0_isFree_58 (by decide) ?_
            refine lv_goto (tgt := 63) X.1 X.2.1 dX0_isFree_59 (by decide) ?_
            exact r_zret X hr hlk hw rfl h dX0_isFree_63
    · have h := hf_ c_
      refine lv_iconst (v := (0 : Int32)) X.1 X.2.1 dX0_isFree_18 (by decide) ?_
      exact r_zret X hr hlk hw rfl h dX0_isFree_19

abbrev rmX8_slotOf : Room := { frames := 0, cells := 0, slots := 0, locals := 0 }
def wX8_slotOf (n : Nat) (M : Sg) (a0 : Int32) (a1 : Int32) (a2 : Int32) (Q : Sg → Int32 → Prop) : Prop := (Q M ((((48 : Int32) * a0) + ((8 : Int32) * a1)) + a2))
set_option maxHeartbeats 4000000 in
set_option maxRecDepth 100000 in
theorem kX8_slotOf {l : Launch} {D : va_G} {κ : Nat → ClassId} {η : Nat → Nat} {σ : (Nat → Nat) × (Nat → Nat)} {n : Nat} {M : Sg} {a0 : Int32} {a1 : Int32} {a2 : Int32} {Q : Sg → Int32 → Prop} (h : wX8_slotOf n M a0 a1 a2 Q) : Ki (cN σ) D (Ky κ) (cw κ η n) l yX8_slotOf wsX8_slotOf rmX8_slotOf [.int a0, .int a1, .int a2] M Q := by
  refine ofW_g (Qc := fun A => Qi D (Ky κ) (cw κ η n) A Q) (cc := cX8_slotOf) (maxL := 3) (ret := (some .int)) (by decide) rfl (Nat.le_of_ble_eq_true rfl) ?_
  intro p e s m args below meth c A ls X hr hlk hw hl
  have hl : lv_has ls 3 [(0, .int a0), (1, .int a1), (2, .int a2)] := hl
  refine lv_bipush (v := (48 : Int32)) X.1 X.2.1 dX8_slotOf_0 (by decide) ?_
  refine lv_iload_n X.1 X.2.1 dX8_slotOf_2 rfl (lv_at hl 0 rfl) ?_
  refine lv_imul X.1 X.2.1 dX8_slotOf_3 ?_
  refine lv_bipush (v := (8 : Int32)) X.1 X.2.1 dX8_slotOf_4 (by decide) ?_
  refine lv_iload_n X.1 X.2.1 dX8_slotOf_6 rfl (lv_at hl 1 rfl) ?_
  refine lv_imul X.1 X.2.1 dX8_slotOf_7 ?_
  refine lv_iadd X.1 X.2.1 dX8_slotOf_8 ?_
  refine lv_iload_n X.1 X.2.1 dX8_slotOf_9 rfl (lv_at hl 2 rfl) ?_
  refine lv_iadd X.1 X.2.1 dX8_slotOf_10 ?_
  exact r_ret X hr hlk hw h dX8_slotOf_11

theorem inX0_leastFreeOn_X0 : ∀ w ∈ wsX00, w ∈ wsX0_leastFreeOn := fun w h => List.mem_cons_of_mem _ (List.mem_append_right _ h)
abbrev rmX0_leastFreeOn : Room := { frames := 3, cells := 0, slots := 0, locals := 69 }
def vX0_leastFreeOn_52 (n : Nat) (K2 : Sg → Int32 → Int32 → Int32 → Prop) (K11 : Sg → Int32 → Int32 → Int32 → Int32 → Prop) (Q : Sg → Int32 → Prop) (M : Sg) (x1 : Int32) (x2 : Int32) (x3 : Int32) (x4 : Int32) : Prop := (∀ (x_1 : Int32), x_1 = x4 + (1 : Int32) → (K11 M x1 x2 x3 x_1))
set_option maxHeartbeats 4000000 in
set_option maxRecDepth 100000 in
theorem bX0_leastFreeOn_52 {p : Program} {l : Launch} {e : Env} {s : State} {m : MethodId} {args : Array Value} {below : List Frame} {meth : Method} {c : Code} {D : va_G} {κ : Nat → ClassId} {η : Nat → Nat} {σ : (Nat → Nat) × (Nat → Nat)} {A : Nat → Prop} {n : Nat} {Q : Sg → Int32 → Prop} {K2 : Sg → Int32 → Int32 → Int32 → Prop} {K11 : Sg → Int32 → Int32 → Int32 → Int32 → Prop} (X : CallFix p m c cX0_leastFreeOn 6 s args wsX0_leastFreeOn RX0) (hr : meth.sig.returnType = (some .int)) (hlk : meth.locks = false) (hK2 : ∀ (M : Sg) (x1 : Int32) (x2 : Int32) (x3 : Int32) (H : Heap) (locs : List Loc) (ls : Array Slot), K2 M x1 x2 x3 → Wd (cN σ) D (Ky κ) A s (cw κ η n M) H locs → lv_has ls 6 [(0, .ref (η 1)), (1, .int x1), (2, .int x2), (3, .int x3)] → W p l e rmX0_leastFreeOn s m args below meth c H locs 0 0 (MQ below (Qi D (Ky κ) (cw κ η n) A Q) args s 0 0 A) (F0 m 2 ls [])) (hK11 : ∀ (M : Sg) (x1 : Int32) (x2 : Int32) (x3 : Int32) (x4 : Int32) (H : Heap) (locs : List Loc) (ls : Array Slot), K11 M x1 x2 x3 x4 → Wd (cN σ) D (Ky κ) A s (cw κ η n M) H locs → lv_has ls 6 [(0, .ref (η 1)), (1, .int x1), (2, .int x2), (3, .int x3), (4, .int x4)] → W p l e rmX0_leastFreeOn s m args below meth c H locs 0 0 (MQ below (Qi D (Ky κ) (cw κ η n) A Q) args s 0 0 A) (F0 m 11 ls [])) : ∀ (M : Sg) (x1 : Int32) (x2 : Int32) (x3 : Int32) (x4 : Int32) (H : Heap) (locs : List Loc) (ls : Array Slot), vX0_leastFreeOn_52 n K2 K11 Q M x1 x2 x3 x4 → Wd (cN σ) D (Ky κ) A s (cw κ η n M) H locs → lv_has ls 6 [(0, .ref (η 1)), (1, .int x1), (2, .int x2), (3, .int x3), (4, .int x4)] → W p l e rmX0_leastFreeOn s m args below meth c H locs 0 0 (MQ below (Qi D (Ky κ) (cw κ η n) A Q) args s 0 0 A) (F0 m 52 ls []) := by
  intro M x1 x2 x3 x4 H locs ls h hw hl
  obtain ⟨x_1, ex_1⟩ : ∃ y : Int32, y = x4 + (1 : Int32) := ⟨_, rfl⟩
  have h := h x_1 ex_1
  refine lv_iinc (v := x_1) (lv' := [(4, .int x_1), (0, .ref (η 1)), (1, .int x1), (2, .int x2), (3, .int x3)]) X.1 X.2.1 dX0_leastFreeOn_52 hl (k := 4) rfl (by rw [ex_1]; rfl) (by decide) rfl (fun ls hl => ?_)
  refine lv_goto (tgt := 11) X.1 X.2.1 dX0_leastFreeOn_55 (by decide) ?_
  exact hK11 M x1 x2 x3 x_1 _ _ _ h hw (lv_sub hl [1, 2, 3, 4, 0] rfl)
def vX0_leastFreeOn_11 (n : Nat) (K2 : Sg → Int32 → Int32 → Int32 → Prop) (Q : Sg → Int32 → Prop) : Nat → Sg → Int32 → Int32 → Int32 → Int32 → Prop
  | 0, _, _, _, _, _ => False
  | f11_ + 1, M, x1, x2, x3, x4 => (((gI M 0) ≤ x4 → (∀ (x_1 : Int32), x_1 = x3 + (1 : Int32) → (K2 M x1 x2 x_1))) ∧ (¬ (gI M 0) ≤ x4 → (wX8_slotOf n M x1 x3 x4 (fun M_2 r_3 => (wX0_townOf n M_2 x4 x1 (fun M_4 r_5 => ((¬ r_5 = x2 → (vX0_leastFreeOn_52 n K2 (vX0_leastFreeOn_11 n K2 Q f11_) Q M_4 x1 x2 x3 x4)) ∧ (r_5 = x2 → (wX0_isFree n M_4 r_3 (fun M_6 r_7 => ((r_7 = 0 → (vX0_leastFreeOn_52 n K2 (vX0_leastFreeOn_11 n K2 Q f11_) Q M_6 x1 x2 x3 x4)) ∧ (¬ r_7 = 0 → (Q M_6 r_3)))))))))))))
set_option maxHeartbeats 4000000 in
set_option maxRecDepth 100000 in
theorem bX0_leastFreeOn_11 {p : Program} {l : Launch} {e : Env} {s : State} {m : MethodId} {args : Array Value} {below : List Frame} {meth : Method} {c : Code} {D : va_G} {κ : Nat → ClassId} {η : Nat → Nat} {σ : (Nat → Nat) × (Nat → Nat)} {A : Nat → Prop} {n : Nat} {Q : Sg → Int32 → Prop} {K2 : Sg → Int32 → Int32 → Int32 → Prop} (X : CallFix p m c cX0_leastFreeOn 6 s args wsX0_leastFreeOn RX0) (hr : meth.sig.returnType = (some .int)) (hlk : meth.locks = false) (hK2 : ∀ (M : Sg) (x1 : Int32) (x2 : Int32) (x3 : Int32) (H : Heap) (locs : List Loc) (ls : Array Slot), K2 M x1 x2 x3 → Wd (cN σ) D (Ky κ) A s (cw κ η n M) H locs → lv_has ls 6 [(0, .ref (η 1)), (1, .int x1), (2, .int x2), (3, .int x3)] → W p l e rmX0_leastFreeOn s m args below meth c H locs 0 0 (MQ below (Qi D (Ky κ) (cw κ η n) A Q) args s 0 0 A) (F0 m 2 ls [])) : ∀ (f_ : Nat) (M : Sg) (x1 : Int32) (x2 : Int32) (x3 : Int32) (x4 : Int32) (H : Heap) (locs : List Loc) (ls : Array Slot), vX0_leastFreeOn_11 n K2 Q f_ M x1 x2 x3 x4 → Wd (cN σ) D (Ky κ) A s (cw κ η n M) H locs → lv_has ls 6 [(0, .ref (η 1)), (1, .int x1), (2, .int x2), (3, .int x3), (4, .int x4)] → W p l e rmX0_leastFreeOn s m args below meth c H locs 0 0 (MQ below (Qi D (Ky κ) (cw κ η n) A Q) args s 0 0 A) (F0 m 11 ls []) := by
  intro f_
  induction f_ with
  | zero => intro M x1 x2 x3 x4 H locs ls h; exact h.elim
  | succ f_ hK11 =>
    intro M x1 x2 x3 x4 H locs ls h hw hl
    refine lv_iload X.1 X.2.1 dX0_leastFreeOn_11 (lv_at hl 4 rfl) ?_
    refine lv_aload_n X.1 X.2.1 dX0_leastFreeOn_13 rfl (lv_at hl 0 rfl) ?_
    refine r_gf X inX0_leastFreeOn_X0 hw 1 rfl rfl 5 (by decide) (X.2.2.2.2 (.fieldLink RX0 34 "TestHall$Calendar" "examiners" "I") (by decide +kernel)) rfl rfl dX0_leastFreeOn_14 ?_
    obtain ⟨ht_, hf_⟩ := h
    refine lv_icmp_ge (tgt := 58) X.1 X.2.1 dX0_leastFreeOn_17 (by decide) (fun c_ => ?_) (fun c_ => ?_)
    · have h := ht_ c_
      obtain ⟨x_1, ex_1⟩ : ∃ y : Int32, y = x3 + (1 : Int32) := ⟨_, rfl⟩
      have h := h x_1 ex_1
      refine lv_iinc (v := x_1) (lv' := [(3, .int x_1), (0, .ref (η 1)), (1, .int x1), (2, .int x2), (4, .int x4)]) X.1 X.2.1 dX0_leastFreeOn_58 hl (k := 3) rfl (by rw [ex_1]; rfl) (by decide) rfl (fun ls hl => ?_)
      refine lv_goto (tgt := 2) X.1 X.2.1 dX0_leastFreeOn_61 (by decide) ?_
      exact hK2 M x1 x2 x_1 _ _ _ h hw (lv_sub hl [1, 2, 3, 0] rfl)
    · have h := hf_ c_
      refine lv_iload_n X.1 X.2.1 dX0_leastFreeOn_20 rfl (lv_at hl 1 rfl) ?_
      refine lv_iload_n X.1 X.2.1 dX0_leastFreeOn_21 rfl (lv_at hl 3 rfl) ?_
      refine lv_iload X.1 X.2.1 dX0_leastFreeOn_22 (lv_at hl 4 rfl) ?_
      refine r_SNi (As := [.int x1, .int x3, .int x4]) (rest := []) X cN_ok (kX8_slotOf h) ⟨va_cnB 3 X.2.2.2.2 gX0_leastFreeOn_X8_slotOf_n81 rfl rfl rfl (cN_X0_81 hw.2.2.2.2.2) (X.2.2.2.2 _ (by decide +kernel)) (by decide +kernel) ⟨Nat.le_of_ble_eq_true rfl, Nat.le_of_ble_eq_true rfl⟩, X.2.2.2.2 _ (by decide +kernel), trivial⟩ hw rfl hl.1 rfl (Nat.le_of_ble_eq_true rfl) dX0_leastFreeOn_24 (fun r_3 M_2 H locs h hw => ?_)
      refine lv_istore (lv' := [(5, .int r_3), (0, .ref (η 1)), (1, .int x1), (2, .int x2), (3, .int x3), (4, .int x4)]) X.1 X.2.1 dX0_leastFreeOn_27 hl (by decide) rfl (fun ls hl => ?_)
      refine lv_aload_n X.1 X.2.1 dX0_leastFreeOn_29 rfl (lv_at hl 1 rfl) ?_
      refine lv_iload X.1 X.2.1 dX0_leastFreeOn_30 (lv_at hl 5 rfl) ?_
      refine lv_iload_n X.1 X.2.1 dX0_leastFreeOn_32 rfl (lv_at hl 2 rfl) ?_
      refine r_Vi (As := [.int x4, .int x1]) (rest := []) X cN_ok (kX0_townOf h) (cwV 2 X.2.2.2.2 gX0_leastFreeOn_X0_townOf rfl rfl rfl (by decide +kernel) ⟨Nat.le_of_ble_eq_true rfl, Nat.le_of_ble_eq_true rfl⟩) hw 1 0 rfl rfl rfl hl.1 rfl (Nat.le_of_ble_eq_true rfl) dX0_leastFreeOn_33 (fun r_5 M_4 H locs h hw => ?_)
      refine lv_iload_n X.1 X.2.1 dX0_leastFreeOn_36 rfl (lv_at hl 3 rfl) ?_
      obtain ⟨ht_, hf_⟩ := h
      refine lv_icmp_ne (tgt := 52) X.1 X.2.1 dX0_leastFreeOn_37 (by decide) (fun c_ => ?_) (fun c_ => ?_)
      · have h := ht_ c_
        exact bX0_leastFreeOn_52 X hr hlk hK2 hK11 M_4 x1 x2 x3 x4 _ _ _ h hw (lv_sub hl [1, 2, 3, 4, 5] rfl)
      · have h := hf_ c_
        refine lv_aload_n X.1 X.2.1 dX0_leastFreeOn_40 rfl (lv_at hl 1 rfl) ?_
        refine lv_iload X.1 X.2.1 dX0_leastFreeOn_41 (lv_at hl 0 rfl) ?_
        refine r_Vi (As := [.int r_3]) (rest := []) X cN_ok (kX0_isFree h) (cwV 1 X.2.2.2.2 gX0_leastFreeOn_X0_isFree rfl rfl rfl (by decide +kernel) ⟨Nat.le_of_ble_eq_true rfl, Nat.le_of_ble_eq_true rfl⟩) hw 1 0 rfl rfl rfl hl.1 rfl (Nat.le_of_ble_eq_true rfl) dX0_leastFreeOn_43 (fun r_7 M_6 H locs h hw => ?_)
        obtain ⟨ht_, hf_⟩ := h
        refine lv_if_eq (tgt := 52) X.1 X.2.1 dX0_leastFreeOn_46 (by decide) (fun c_ => ?_) (fun c_ => ?_)
        · have h := ht_ c_
          exact bX0_leastFreeOn_52 X hr hlk hK2 hK11 M_6 x1 x2 x3 x4 _ _ _ h hw (lv_sub hl [1, 2, 3, 4, 5] rfl)
        · have h := hf_ c_
          refine lv_iload X.1 X.2.1 dX0_leastFreeOn_49 (lv_at hl 0 rfl) ?_
          exact r_ret X hr hlk hw h dX0_leastFreeOn_51
def vX0_leastFreeOn_2 (n : Nat) (Q : Sg → Int32 → Prop) : Nat → Sg → Int32 → Int32 → Int32 → Prop
  | 0, _, _, _, _ => False
  | f2_ + 1, M, x1, x2, x3 => (((6 : Int32) ≤ x3 → (Q M (-1 : Int32))) ∧ (¬ (6 : Int32) ≤ x3 → (∃ g11_ : Nat, vX0_leastFreeOn_11 n (vX0_leastFreeOn_2 n Q f2_) Q g11_ M x1 x2 x3 (0 : Int32))))
set_option maxHeartbeats 4000000 in
set_option maxRecDepth 100000 in
theorem bX0_leastFreeOn_2 {p : Program} {l : Launch} {e : Env} {s : State} {m : MethodId} {args : Array Value} {below : List Frame} {meth : Method} {c : Code} {D : va_G} {κ : Nat → ClassId} {η : Nat → Nat} {σ : (Nat → Nat) × (Nat → Nat)} {A : Nat → Prop} {n : Nat} {Q : Sg → Int32 → Prop} (X : CallFix p m c cX0_leastFreeOn 6 s args wsX0_leastFreeOn RX0) (hr : meth.sig.returnType = (some .int)) (hlk : meth.locks = false) : ∀ (f_ : Nat) (M : Sg) (x1 : Int32) (x2 : Int32) (x3 : Int32) (H : Heap) (locs : List Loc) (ls : Array Slot), vX0_leastFreeOn_2 n Q f_ M x1 x2 x3 → Wd (cN σ) D (Ky κ) A s (cw κ η n M) H locs → lv_has ls 6 [(0, .ref (η 1)), (1, .int x1), (2, .int x2), (3, .int x3)] → W p l e rmX0_leastFreeOn s m args below meth c H locs 0 0 (MQ below (Qi D (Ky κ) (cw κ η n) A Q) args s 0 0 A) (F0 m 2 ls []) := by
  intro f_
  induction f_ with
  | zero => intro M x1 x2 x3 H locs ls h; exact h.elim
  | succ f_ hK2 =>
    intro M x1 x2 x3 H locs ls h hw hl
    refine lv_iload_n X.1 X.2.1 dX0_leastFreeOn_2 rfl (lv_at hl 3 rfl) ?_
    refine lv_bipush (v := (6 : Int32)) X.1 X.2.1 dX0_leastFreeOn_3 (by decide) ?_
    obtain ⟨ht_, hf_⟩ := h
    refine lv_icmp_ge (tgt := 64) X.1 X.2.1 dX0_leastFreeOn_5 (by decide) (fun c_ => ?_) (fun c_ => ?_)
    · have h := ht_ c_
      refine lv_iconst (v := (-1 : Int32)) X.1 X.2.1 dX0_leastFreeOn_64 (by decide) ?_
      exact r_ret X hr hlk hw h dX0_leastFreeOn_65
    · have h := hf_ c_
      refine lv_iconst (v := (0 : Int32)) X.1 X.2.1 dX0_leastFreeOn_8 (by decide) ?_
      refine lv_istore (lv' := [(4, .int (0 : Int32)), (0, .ref (η 1)), (1, .int x1), (2, .int x2), (3, .int x3)]) X.1 X.2.1 dX0_leastFreeOn_9 hl (by decide) rfl (fun ls hl => ?_)
      obtain ⟨f_, h⟩ := h
      exact bX0_leastFreeOn_11 X hr hlk hK2 f_ M x1 x2 x3 (0 : Int32) _ _ _ h hw (lv_sub hl [1, 2, 3, 4, 0] rfl)
def wX0_leastFreeOn (n : Nat) (M : Sg) (a1 : Int32) (a2 : Int32) (Q : Sg → Int32 → Prop) : Prop := (∃ g2_ : Nat, vX0_leastFreeOn_2 n Q g2_ M a1 a2 (0 : Int32))
set_option maxHeartbeats 4000000 in
set_option maxRecDepth 100000 in
theorem kX0_leastFreeOn {l : Launch} {D : va_G} {κ : Nat → ClassId} {η : Nat → Nat} {σ : (Nat → Nat) × (Nat → Nat)} {n : Nat} {M : Sg} {a1 : Int32} {a2 : Int32} {Q : Sg → Int32 → Prop} (h : wX0_leastFreeOn n M a1 a2 Q) : Ki (cN σ) D (Ky κ) (cw κ η n) l yX0_leastFreeOn wsX0_leastFreeOn rmX0_leastFreeOn [.ref (η 1), .int a1, .int a2] M Q := by
  refine ofW_g (Qc := fun A => Qi D (Ky κ) (cw κ η n) A Q) (cc := cX0_leastFreeOn) (maxL := 6) (ret := (some .int)) (by decide) rfl (Nat.le_of_ble_eq_true rfl) ?_
  intro p e s m args below meth c A ls X hr hlk hw hl
  have hl : lv_has ls 6 [(0, .ref (η 1)), (1, .int a1), (2, .int a2)] := hl
  refine lv_iconst (v := (0 : Int32)) X.1 X.2.1 dX0_leastFreeOn_0 (by decide) ?_
  refine lv_istore_n (lv' := [(3, .int (0 : Int32)), (0, .ref (η 1)), (1, .int a1), (2, .int a2)]) X.1 X.2.1 dX0_leastFreeOn_1 rfl hl (by decide) rfl (fun ls hl => ?_)
  obtain ⟨f_, h⟩ := h
  exact bX0_leastFreeOn_2 X hr hlk f_ M a1 a2 (0 : Int32) _ _ _ h hw (lv_sub hl [1, 2, 3, 0] rfl)

theorem inX0_leastFree_X0 : ∀ w ∈ wsX00, w ∈ wsX0_leastFree := fun w h => List.mem_cons_of_mem _ (List.mem_append_right _ h)
abbrev rmX0_leastFree : Room := { frames := 4, cells := 0, slots := 0, locals := 94 }
def vX0_leastFree_12 (n : Nat) (Q : Sg → Int32 → Prop) : Nat → Sg → Int32 → Int32 → Int32 → Prop
  | 0, _, _, _, _ => False
  | f12_ + 1, M, x1, x3, x4 => ((x3 < x4 → (Q M (-1 : Int32))) ∧ (¬ x3 < x4 → (((60 : Int32) ≤ x4 → (Q M (-1 : Int32))) ∧ (¬ (60 : Int32) ≤ x4 → (wX0_leastFreeOn n M x4 x1 (fun M_1 r_2 => ((r_2 = (-1 : Int32) → (∀ (x_3 : Int32), x_3 = x4 + (1 : Int32) → (vX0_leastFree_12 n Q f12_ M_1 x1 x3 x_3))) ∧ (¬ r_2 = (-1 : Int32) → (Q M_1 r_2)))))))))
set_option maxHeartbeats 4000000 in
set_option maxRecDepth 100000 in
theorem bX0_leastFree_12 {p : Program} {l : Launch} {e : Env} {s : State} {m : MethodId} {args : Array Value} {below : List Frame} {meth : Method} {c : Code} {D : va_G} {κ : Nat → ClassId} {η : Nat → Nat} {σ : (Nat → Nat) × (Nat → Nat)} {A : Nat → Prop} {n : Nat} {Q : Sg → Int32 → Prop} (X : CallFix p m c cX0_leastFree 6 s args wsX0_leastFree RX0) (hr : meth.sig.returnType = (some .int)) (hlk : meth.locks = false) : ∀ (f_ : Nat) (M : Sg) (x1 : Int32) (x3 : Int32) (x4 : Int32) (H : Heap) (locs : List Loc) (ls : Array Slot), vX0_leastFree_12 n Q f_ M x1 x3 x4 → Wd (cN σ) D (Ky κ) A s (cw κ η n M) H locs → lv_has ls 6 [(0, .ref (η 1)), (1, .int x1), (3, .int x3), (4, .int x4)] → W p l e rmX0_leastFree s m args below meth c H locs 0 0 (MQ below (Qi D (Ky κ) (cw κ η n) A Q) args s 0 0 A) (F0 m 12 ls []) := by
  intro f_
  induction f_ with
  | zero => intro M x1 x3 x4 H locs ls h; exact h.elim
  | succ f_ hK12 =>
    intro M x1 x3 x4 H locs ls h hw hl
    refine lv_iload X.1 X.2.1 dX0_leastFree_12 (lv_at hl 3 rfl) ?_
    refine lv_iload_n X.1 X.2.1 dX0_leastFree_14 rfl (lv_at hl 2 rfl) ?_
    obtain ⟨ht_, hf_⟩ := h
    refine lv_icmp_gt (tgt := 49) X.1 X.2.1 dX0_leastFree_15 (by decide) (fun c_ => ?_) (fun c_ => ?_)
    · have h := ht_ c_
      refine lv_iconst (v := (-1 : Int32)) X.1 X.2.1 dX0_leastFree_49 (by decide) ?_
      exact r_ret X hr hlk hw h dX0_leastFree_50
    · have h := hf_ c_
      refine lv_iload X.1 X.2.1 dX0_leastFree_18 (lv_at hl 3 rfl) ?_
      refine lv_bipush (v := (60 : Int32)) X.1 X.2.1 dX0_leastFree_20 (by decide) ?_
      obtain ⟨ht_, hf_⟩ := h
      refine lv_icmp_ge (tgt := 49) X.1 X.2.1 dX0_leastFree_22 (by decide) (fun c_ => ?_) (fun c_ => ?_)
      · have h := ht_ c_
        refine lv_iconst (v := (-1 : Int32)) X.1 X.2.1 dX0_leastFree_49 (by decide) ?_
        exact r_ret X hr hlk hw h dX0_leastFree_50
      · have h := hf_ c_
        refine lv_aload_n X.1 X.2.1 dX0_leastFree_25 rfl (lv_at hl 0 rfl) ?_
        refine lv_iload X.1 X.2.1 dX0_leastFree_26 (lv_at hl 3 rfl) ?_
        refine lv_iload_n X.1 X.2.1 dX0_leastFree_28 rfl (lv_at hl 1 rfl) ?_
        refine r_Vi (As := [.int x4, .int x1]) (rest := []) X cN_ok (kX0_leastFreeOn h) (cwV 2 X.2.2.2.2 gX0_leastFree_X0_leastFreeOn rfl rfl rfl (by decide +kernel) ⟨Nat.le_of_ble_eq_true rfl, Nat.le_of_ble_eq_true rfl⟩) hw 1 0 rfl rfl rfl hl.1 rfl (Nat.le_of_ble_eq_true rfl) dX0_leastFree_29 (fun r_2 M_1 H locs h hw => ?_)
        refine lv_istore (lv' := [(5, .int r_2), (0, .ref (η 1)), (1, .int x1), (3, .int x3), (4, .int x4)]) X.1 X.2.1 dX0_leastFree_32 hl (by decide) rfl (fun ls hl => ?_)
        refine lv_iload X.1 X.2.1 dX0_leastFree_34 (lv_at hl 0 rfl) ?_
        refine lv_iconst (v := (-1 : Int32)) X.1 X.2.1 dX0_leastFree_36 (by decide) ?_
        obtain ⟨ht_, hf_⟩ := h
        refine lv_icmp_eq (tgt := 43) X.1 X.2.1 dX0_leastFree_37 (by decide) (fun c_ => ?_) (fun c_ => ?_)
        · have h := ht_ c_
          obtain ⟨x_3, ex_3⟩ : ∃ y : Int32, y = x4 + (1 : Int32) := ⟨_, rfl⟩
          have h := h x_3 ex_3
          refine lv_iinc (v := x_3) (lv' := [(4, .int x_3), (5, .int r_2), (0, .ref (η 1)), (1, .int x1), (3, .int x3)]) X.1 X.2.1 dX0_leastFree_43 hl (k := 4) rfl (by rw [ex_3]; rfl) (by decide) rfl (fun ls hl => ?_)
          refine lv_goto (tgt := 12) X.1 X.2.1 dX0_leastFree_46 (by decide) ?_
          exact hK12 M_1 x1 x3 x_3 _ _ _ h hw (lv_sub hl [2, 3, 4, 0] rfl)
        · have h := hf_ c_
          refine lv_iload X.1 X.2.1 dX0_leastFree_40 (lv_at hl 0 rfl) ?_
          exact r_ret X hr hlk hw h dX0_leastFree_42
def wX0_leastFree (n : Nat) (M : Sg) (a1 : Int32) (a2 : Int32) (a3 : Int32) (Q : Sg → Int32 → Prop) : Prop := (∀ (x_1 : Int32), x_1 = (if a2 < ((gI M 1) + (1 : Int32)) then ((gI M 1) + (1 : Int32)) else a2) → (∃ g12_ : Nat, vX0_leastFree_12 n Q g12_ M a1 a3 x_1))
set_option maxHeartbeats 4000000 in
set_option maxRecDepth 100000 in
theorem kX0_leastFree {l : Launch} {D : va_G} {κ : Nat → ClassId} {η : Nat → Nat} {σ : (Nat → Nat) × (Nat → Nat)} {n : Nat} {M : Sg} {a1 : Int32} {a2 : Int32} {a3 : Int32} {Q : Sg → Int32 → Prop} (h : wX0_leastFree n M a1 a2 a3 Q) : Ki (cN σ) D (Ky κ) (cw κ η n) l yX0_leastFree wsX0_leastFree rmX0_leastFree [.ref (η 1), .int a1, .int a2, .int a3] M Q := by
  refine ofW_g (Qc := fun A => Qi D (Ky κ) (cw κ η n) A Q) (cc := cX0_leastFree) (maxL := 6) (ret := (some .int)) (by decide) rfl (Nat.le_of_ble_eq_true rfl) ?_
  intro p e s m args below meth c A ls X hr hlk hw hl
  have hl : lv_has ls 6 [(0, .ref (η 1)), (1, .int a1), (2, .int a2), (3, .int a3)] := hl
  refine lv_iload_n X.1 X.2.1 dX0_leastFree_0 rfl (lv_at hl 2 rfl) ?_
  refine lv_aload_n X.1 X.2.1 dX0_leastFree_1 rfl (lv_at hl 0 rfl) ?_
  refine r_gf X inX0_leastFree_X0 hw 1 rfl rfl 6 (by decide) (X.2.2.2.2 (.fieldLink RX0 60 "TestHall$Calendar" "now" "I") (by decide +kernel)) rfl rfl dX0_leastFree_2 ?_
  refine lv_iconst (v := (1 : Int32)) X.1 X.2.1 dX0_leastFree_5 (by decide) ?_
  refine lv_iadd X.1 X.2.1 dX0_leastFree_6 ?_
  refine va_mmax X.1 X.2.1 (X.2.2.1.trans hl.1.symm) X.2.2.2.1 (X.2.2.2.2 _ (by decide +kernel)) (X.2.2.2.2 _ (by decide +kernel)) (X.2.2.2.2 _ (by decide +kernel)) (X.2.2.2.2 _ (by decide +kernel)) (Nat.le_of_ble_eq_true rfl) (Nat.le_of_ble_eq_true rfl) (Nat.zero_le _) (Nat.zero_le _) dX0_leastFree_7 ?_
  refine lv_topi (fun x_1 ex_1 => ?_)
  have h := h x_1 ex_1
  refine lv_istore (lv' := [(4, .int x_1), (0, .ref (η 1)), (1, .int a1), (2, .int a2), (3, .int a3)]) X.1 X.2.1 dX0_leastFree_10 hl (by decide) rfl (fun ls hl => ?_)
  obtain ⟨f_, h⟩ := h
  exact bX0_leastFree_12 X hr hlk f_ M a1 a3 x_1 _ _ _ h hw (lv_sub hl [1, 2, 4, 0] rfl)

theorem inX0_noteTest_X0 : ∀ w ∈ wsX00, w ∈ wsX0_noteTest := fun w h => List.mem_cons_of_mem _ (List.mem_append_right _ h)
abbrev rmX0_noteTest : Room := { frames := 1, cells := 0, slots := 0, locals := 21 }
def wX0_noteTest (n : Nat) (M : Sg) (a1 : Int32) (a2 : Int32) (Q : Sg → Prop) : Prop := (wX0_isExaminer n M a1 (fun M_1 r_2 => ((¬ r_2 = 0 → (vp_in a1 8 ∧ (vp_in a1 8 ∧ (∀ (M_3 : Sg), M_3 = sA M_1 3 a1.toNatClampNeg ((gA M_1 3 a1.toNatClampNeg) + (1 : Int32)) → (∀ (M_4 : Sg), M_4 = sI M_3 2 ((gI M_3 2) + (1 : Int32)) → ((a2 = 0 → (Q M_4)) ∧ (¬ a2 = 0 → (vp_in a1 8 ∧ (vp_in a1 8 ∧ (∀ (M_5 : Sg), M_5 = sA M_4 4 a1.toNatClampNeg ((gA M_4 4 a1.toNatClampNeg) + (1 : Int32)) → (∀ (M_6 : Sg), M_6 = sI M_5 3 ((gI M_5 3) + (1 : Int32)) → (Q M_6)))))))))))) ∧ (r_2 = 0 → (Q M_1)))))
set_option maxHeartbeats 4000000 in
set_option maxRecDepth 100000 in
theorem kX0_noteTest {l : Launch} {D : va_G} {κ : Nat → ClassId} {η : Nat → Nat} {σ : (Nat → Nat) × (Nat → Nat)} {n : Nat} {M : Sg} {a1 : Int32} {a2 : Int32} {Q : Sg → Prop} (h : wX0_noteTest n M a1 a2 Q) : Kv (cN σ) D (Ky κ) (cw κ η n) l yX0_noteTest wsX0_noteTest rmX0_noteTest [.ref (η 1), .int a1, .int a2] M Q := by
  refine ofW_g (Qc := fun A => Qv D (Ky κ) (cw κ η n) A Q) (cc := cX0_noteTest) (maxL := 3) (ret := none) (by decide) rfl (Nat.le_of_ble_eq_true rfl) ?_
  intro p e s m args below meth c A ls X hr hlk hw hl
  have hl : lv_has ls 3 [(0, .ref (η 1)), (1, .int a1), (2, .int a2)] := hl
  refine lv_aload_n X.1 X.2.1 dX0_noteTest_0 rfl (lv_at hl 0 rfl) ?_
  refine lv_iload_n X.1 X.2.1 dX0_noteTest_1 rfl (lv_at hl 1 rfl) ?_
  refine r_Vi (As := [.int a1]) (rest := []) X cN_ok (kX0_isExaminer h) (cwV 1 X.2.2.2.2 gX0_noteTest_X0_isExaminer rfl rfl rfl (by decide +kernel) ⟨Nat.le_of_ble_eq_true rfl, Nat.le_of_ble_eq_true rfl⟩) hw 1 0 rfl rfl rfl hl.1 rfl (Nat.le_of_ble_eq_true rfl) dX0_noteTest_2 (fun r_2 M_1 H locs h hw => ?_)
  obtain ⟨ht_, hf_⟩ := h
  refine lv_if_ne (tgt := 9) X.1 X.2.1 dX0_noteTest_5 (by decide) (fun c_ => ?_) (fun c_ => ?_)
  · have h := ht_ c_
    refine lv_aload_n X.1 X.2.1 dX0_noteTest_9 rfl (lv_at hl 0 rfl) ?_
    refine r_gf X inX0_noteTest_X0 hw 1 rfl rfl 3 (by decide) (X.2.2.2.2 (.fieldLink RX0 22 "TestHall$Calendar" "tests" "[I") (by decide +kernel)) rfl rfl dX0_noteTest_10 ?_
    refine lv_iload_n X.1 X.2.1 dX0_noteTest_13 rfl (lv_at hl 1 rfl) ?_
    refine lv_dup2_11 X.1 X.2.1 dX0_noteTest_14 rfl rfl ?_
    obtain ⟨hi_, h⟩ := h
    refine r_ial X hw 12 0 rfl rfl hi_ dX0_noteTest_15 ?_
    refine lv_iconst (v := (1 : Int32)) X.1 X.2.1 dX0_noteTest_16 (by decide) ?_
    refine lv_iadd X.1 X.2.1 dX0_noteTest_17 ?_
    obtain ⟨hi_, h⟩ := h
    refine r_ias (w' := cw κ η n (sA M_1 3 a1.toNatClampNeg ((gA M_1 3 a1.toNatClampNeg) + (1 : Int32)))) X hw 12 0 rfl rfl hi_ rfl dX0_noteTest_18 (fun H locs hw => ?_)
    obtain ⟨M_3, eM_3⟩ : ∃ y : Sg, y = sA M_1 3 a1.toNatClampNeg ((gA M_1 3 a1.toNatClampNeg) + (1 : Int32)) := ⟨_, rfl⟩
    rw [← eM_3] at hw
    have h := h M_3 eM_3
    refine lv_aload_n X.1 X.2.1 dX0_noteTest_19 rfl (lv_at hl 0 rfl) ?_
    refine lv_dup X.1 X.2.1 dX0_noteTest_20 rfl ?_
    refine r_gf X inX0_noteTest_X0 hw 1 rfl rfl 7 (by decide) (X.2.2.2.2 (.fieldLink RX0 88 "TestHall$Calendar" "allTests" "I") (by decide +kernel)) rfl rfl dX0_noteTest_21 ?_
    refine lv_iconst (v := (1 : Int32)) X.1 X.2.1 dX0_noteTest_24 (by decide) ?_
    refine lv_iadd X.1 X.2.1 dX0_noteTest_25 ?_
    refine r_pf (ty := .int) (w' := cw κ η n (sI M_3 2 ((gI M_3 2) + (1 : Int32)))) X inX0_noteTest_X0 tyX0_ok nmX0 hw 1 rfl rfl 7 (by decide) (X.2.2.2.2 (.fieldLink RX0 88 "TestHall$Calendar" "allTests" "I") (by decide +kernel)) rfl rfl (by decide +kernel) rfl rfl (Nat.le_of_ble_eq_true rfl) rfl dX0_noteTest_26 (fun H locs hw => ?_)
    obtain ⟨M_4, eM_4⟩ : ∃ y : Sg, y = sI M_3 2 ((gI M_3 2) + (1 : Int32)) := ⟨_, rfl⟩
    rw [← eM_4] at hw
    have h := h M_4 eM_4
    refine lv_iload_n X.1 X.2.1 dX0_noteTest_29 rfl (lv_at hl 2 rfl) ?_
    obtain ⟨ht_, hf_⟩ := h
    refine lv_if_eq (tgt := 53) X.1 X.2.1 dX0_noteTest_30 (by decide) (fun c_ => ?_) (fun c_ => ?_)
    · have h := ht_ c_
      exact r_vret X hr hlk hw h dX0_noteTest_53
    · have h := hf_ c_
      refine lv_aload_n X.1 X.2.1 dX0_noteTest_33 rfl (lv_at hl 0 rfl) ?_
      refine r_gf X inX0_noteTest_X0 hw 1 rfl rfl 4 (by decide) (X.2.2.2.2 (.fieldLink RX0 25 "TestHall$Calendar" "passes" "[I") (by decide +kernel)) rfl rfl dX0_noteTest_34 ?_
      refine lv_iload_n X.1 X.2.1 dX0_noteTest_37 rfl (lv_at hl 1 rfl) ?_
      refine lv_dup2_11 X.1 X.2.1 dX0_noteTest_38 rfl rfl ?_
      obtain ⟨hi_, h⟩ := h
      refine r_ial X hw 13 0 rfl rfl hi_ dX0_noteTest_39 ?_
      refine lv_iconst (v := (1 : Int32)) X.1 X.2.1 dX0_noteTest_40 (by decide) ?_
      refine lv_iadd X.1 X.2.1 dX0_noteTest_41 ?_
      obtain ⟨hi_, h⟩ := h
      refine r_ias (w' := cw κ η n (sA M_4 4 a1.toNatClampNeg ((gA M_4 4 a1.toNatClampNeg) + (1 : Int32)))) X hw 13 0 rfl rfl hi_ rfl dX0_noteTest_42 (fun H locs hw => ?_)
      obtain ⟨M_5, eM_5⟩ : ∃ y : Sg, y = sA M_4 4 a1.toNatClampNeg ((gA M_4 4 a1.toNatClampNeg) + (1 : Int32)) := ⟨_, rfl⟩
      rw [← eM_5] at hw
      have h := h M_5 eM_5
      refine lv_aload_n X.1 X.2.1 dX0_noteTest_43 rfl (lv_at hl 0 rfl) ?_
      refine lv_dup X.1 X.2.1 dX0_noteTest_44 rfl ?_
      refine r_gf X inX0_noteTest_X0 hw 1 rfl rfl 8 (by decide) (X.2.2.2.2 (.fieldLink RX0 91 "TestHall$Calendar" "allPasses" "I") (by decide +kernel)) rfl rfl dX0_noteTest_45 ?_
      refine lv_iconst (v := (1 : Int32)) X.1 X.2.1 dX0_noteTest_48 (by decide) ?_
      refine lv_iadd X.1 X.2.1 dX0_noteTest_49 ?_
      refine r_pf (ty := .int) (w' := cw κ η n (sI M_5 3 ((gI M_5 3) + (1 : Int32)))) X inX0_noteTest_X0 tyX0_ok nmX0 hw 1 rfl rfl 8 (by decide) (X.2.2.2.2 (.fieldLink RX0 91 "TestHall$Calendar" "allPasses" "I") (by decide +kernel)) rfl rfl (by decide +kernel) rfl rfl (Nat.le_of_ble_eq_true rfl) rfl dX0_noteTest_50 (fun H locs hw => ?_)
      obtain ⟨M_6, eM_6⟩ : ∃ y : Sg, y = sI M_5 3 ((gI M_5 3) + (1 : Int32)) := ⟨_, rfl⟩
      rw [← eM_6] at hw
      have h := h M_6 eM_6
      exact r_vret X hr hlk hw h dX0_noteTest_53
  · have h := hf_ c_
    exact r_vret X hr hlk hw h dX0_noteTest_8

theorem inX0_testsOf_X0 : ∀ w ∈ wsX00, w ∈ wsX0_testsOf := fun w h => List.mem_cons_of_mem _ (List.mem_append_right _ h)
abbrev rmX0_testsOf : Room := { frames := 1, cells := 0, slots := 0, locals := 21 }
def wX0_testsOf (n : Nat) (M : Sg) (a1 : Int32) (Q : Sg → Int32 → Prop) : Prop := (wX0_isExaminer n M a1 (fun M_1 r_2 => ((r_2 = 0 → (Q M_1 (0 : Int32))) ∧ (¬ r_2 = 0 → (vp_in a1 8 ∧ (Q M_1 (gA M_1 3 a1.toNatClampNeg)))))))
set_option maxHeartbeats 4000000 in
set_option maxRecDepth 100000 in
theorem kX0_testsOf {l : Launch} {D : va_G} {κ : Nat → ClassId} {η : Nat → Nat} {σ : (Nat → Nat) × (Nat → Nat)} {n : Nat} {M : Sg} {a1 : Int32} {Q : Sg → Int32 → Prop} (h : wX0_testsOf n M a1 Q) : Ki (cN σ) D (Ky κ) (cw κ η n) l yX0_testsOf wsX0_testsOf rmX0_testsOf [.ref (η 1), .int a1] M Q := by
  refine ofW_g (Qc := fun A => Qi D (Ky κ) (cw κ η n) A Q) (cc := cX0_testsOf) (maxL := 2) (ret := (some .int)) (by decide) rfl (Nat.le_of_ble_eq_true rfl) ?_
  intro p e s m args below meth c A ls X hr hlk hw hl
  have hl : lv_has ls 2 [(0, .ref (η 1)), (1, .int a1)] := hl
  refine lv_aload_n X.1 X.2.1 dX0_testsOf_0 rfl (lv_at hl 0 rfl) ?_
  refine lv_iload_n X.1 X.2.1 dX0_testsOf_1 rfl (lv_at hl 1 rfl) ?_
  refine r_Vi (As := [.int a1]) (rest := []) X cN_ok (kX0_isExaminer h) (cwV 1 X.2.2.2.2 gX0_testsOf_X0_isExaminer rfl rfl rfl (by decide +kernel) ⟨Nat.le_of_ble_eq_true rfl, Nat.le_of_ble_eq_true rfl⟩) hw 1 0 rfl rfl rfl hl.1 rfl (Nat.le_of_ble_eq_true rfl) dX0_testsOf_2 (fun r_2 M_1 H locs h hw => ?_)
  obtain ⟨ht_, hf_⟩ := h
  refine lv_if_eq (tgt := 17) X.1 X.2.1 dX0_testsOf_5 (by decide) (fun c_ => ?_) (fun c_ => ?_)
  · have h := ht_ c_
    refine lv_iconst (v := (0 : Int32)) X.1 X.2.1 dX0_testsOf_17 (by decide) ?_
    exact r_ret X hr hlk hw h dX0_testsOf_18
  · have h := hf_ c_
    refine lv_aload_n X.1 X.2.1 dX0_testsOf_8 rfl (lv_at hl 0 rfl) ?_
    refine r_gf X inX0_testsOf_X0 hw 1 rfl rfl 3 (by decide) (X.2.2.2.2 (.fieldLink RX0 22 "TestHall$Calendar" "tests" "[I") (by decide +kernel)) rfl rfl dX0_testsOf_9 ?_
    refine lv_iload_n X.1 X.2.1 dX0_testsOf_12 rfl (lv_at hl 1 rfl) ?_
    obtain ⟨hi_, h⟩ := h
    refine r_ial X hw 12 0 rfl rfl hi_ dX0_testsOf_13 ?_
    refine lv_goto (tgt := 18) X.1 X.2.1 dX0_testsOf_14 (by decide) ?_
    exact r_ret X hr hlk hw h dX0_testsOf_18

theorem inX0_passesOf_X0 : ∀ w ∈ wsX00, w ∈ wsX0_passesOf := fun w h => List.mem_cons_of_mem _ (List.mem_append_right _ h)
abbrev rmX0_passesOf : Room := { frames := 1, cells := 0, slots := 0, locals := 21 }
def wX0_passesOf (n : Nat) (M : Sg) (a1 : Int32) (Q : Sg → Int32 → Prop) : Prop := (wX0_isExaminer n M a1 (fun M_1 r_2 => ((r_2 = 0 → (Q M_1 (0 : Int32))) ∧ (¬ r_2 = 0 → (vp_in a1 8 ∧ (Q M_1 (gA M_1 4 a1.toNatClampNeg)))))))
set_option maxHeartbeats 4000000 in
set_option maxRecDepth 100000 in
theorem kX0_passesOf {l : Launch} {D : va_G} {κ : Nat → ClassId} {η : Nat → Nat} {σ : (Nat → Nat) × (Nat → Nat)} {n : Nat} {M : Sg} {a1 : Int32} {Q : Sg → Int32 → Prop} (h : wX0_passesOf n M a1 Q) : Ki (cN σ) D (Ky κ) (cw κ η n) l yX0_passesOf wsX0_passesOf rmX0_passesOf [.ref (η 1), .int a1] M Q := by
  refine ofW_g (Qc := fun A => Qi D (Ky κ) (cw κ η n) A Q) (cc := cX0_passesOf) (maxL := 2) (ret := (some .int)) (by decide) rfl (Nat.le_of_ble_eq_true rfl) ?_
  intro p e s m args below meth c A ls X hr hlk hw hl
  have hl : lv_has ls 2 [(0, .ref (η 1)), (1, .int a1)] := hl
  refine lv_aload_n X.1 X.2.1 dX0_passesOf_0 rfl (lv_at hl 0 rfl) ?_
  refine lv_iload_n X.1 X.2.1 dX0_passesOf_1 rfl (lv_at hl 1 rfl) ?_
  refine r_Vi (As := [.int a1]) (rest := []) X cN_ok (kX0_isExaminer h) (cwV 1 X.2.2.2.2 gX0_passesOf_X0_isExaminer rfl rfl rfl (by decide +kernel) ⟨Nat.le_of_ble_eq_true rfl, Nat.le_of_ble_eq_true rfl⟩) hw 1 0 rfl rfl rfl hl.1 rfl (Nat.le_of_ble_eq_true rfl) dX0_passesOf_2 (fun r_2 M_1 H locs h hw => ?_)
  obtain ⟨ht_, hf_⟩ := h
  refine lv_if_eq (tgt := 17) X.1 X.2.1 dX0_passesOf_5 (by decide) (fun c_ => ?_) (fun c_ => ?_)
  · have h := ht_ c_
    refine lv_iconst (v := (0 : Int32)) X.1 X.2.1 dX0_passesOf_17 (by decide) ?_
    exact r_ret X hr hlk hw h dX0_passesOf_18
  · have h := hf_ c_
    refine lv_aload_n X.1 X.2.1 dX0_passesOf_8 rfl (lv_at hl 0 rfl) ?_
    refine r_gf X inX0_passesOf_X0 hw 1 rfl rfl 4 (by decide) (X.2.2.2.2 (.fieldLink RX0 25 "TestHall$Calendar" "passes" "[I") (by decide +kernel)) rfl rfl dX0_passesOf_9 ?_
    refine lv_iload_n X.1 X.2.1 dX0_passesOf_12 rfl (lv_at hl 1 rfl) ?_
    obtain ⟨hi_, h⟩ := h
    refine r_ial X hw 13 0 rfl rfl hi_ dX0_passesOf_13 ?_
    refine lv_goto (tgt := 18) X.1 X.2.1 dX0_passesOf_14 (by decide) ?_
    exact r_ret X hr hlk hw h dX0_passesOf_18

theorem inX0_difference_X0 : ∀ w ∈ wsX00, w ∈ wsX0_difference := fun w h => List.mem_cons_of_mem _ (List.mem_append_right _ h)
abbrev rmX0_difference : Room := { frames := 2, cells := 0, slots := 0, locals := 42 }
def wX0_difference (n : Nat) (M : Sg) (a1 : Int32) (a2 : Int32) (Q : Sg → Int32 → Prop) : Prop := (wX0_testsOf n M a1 (fun M_1 r_2 => (∀ (x_3 : Int64), x_3 = r_2.toInt64 → (∀ (x_4 : Int64), x_4 = ((gI M_1 2).toInt64 - x_3) → (wX0_passesOf n M_1 a1 (fun M_5 r_6 => (∀ (x_7 : Int64), x_7 = r_6.toInt64 → (∀ (x_8 : Int64), x_8 = ((gI M_5 3).toInt64 - x_7) → (∀ (x_9 : Int64), x_9 = (((x_7 * x_4) - (x_8 * x_3)) * (100 : Int64)) → (∀ (x_10 : Int64), x_10 = ((a2.toInt64 * x_3) * x_4) → (((lg_cmp x_9 x_10) ≤ 0 → ((0 ≤ (lg_cmp x_9 (-x_10)) → (Q M_5 (0 : Int32))) ∧ (¬ 0 ≤ (lg_cmp x_9 (-x_10)) → (Q M_5 (-1 : Int32))))) ∧ (¬ (lg_cmp x_9 x_10) ≤ 0 → (Q M_5 (1 : Int32))))))))))))))
set_option maxHeartbeats 4000000 in
set_option maxRecDepth 100000 in
theorem kX0_difference {l : Launch} {D : va_G} {κ : Nat → ClassId} {η : Nat → Nat} {σ : (Nat → Nat) × (Nat → Nat)} {n : Nat} {M : Sg} {a1 : Int32} {a2 : Int32} {Q : Sg → Int32 → Prop} (h : wX0_difference n M a1 a2 Q) : Ki (cN σ) D (Ky κ) (cw κ η n) l yX0_difference wsX0_difference rmX0_difference [.ref (η 1), .int a1, .int a2] M Q := by
  refine ofW_g (Qc := fun A => Qi D (Ky κ) (cw κ η n) A Q) (cc := cX0_difference) (maxL := 15) (ret := (some .int)) (by decide) rfl (Nat.le_of_ble_eq_true rfl) ?_
  intro p e s m args below meth c A ls X hr hlk hw hl
  have hl : lv_has ls 15 [(0, .ref (η 1)), (1, .int a1), (2, .int a2)] := hl
  refine lv_aload_n X.1 X.2.1 dX0_difference_0 rfl (lv_at hl 0 rfl) ?_
  refine lv_iload_n X.1 X.2.1 dX0_difference_1 rfl (lv_at hl 1 rfl) ?_
  refine r_Vi (As := [.int a1]) (rest := []) X cN_ok (kX0_testsOf h) (cwV 1 X.2.2.2.2 gX0_difference_X0_testsOf rfl rfl rfl (by decide +kernel) ⟨Nat.le_of_ble_eq_true rfl, Nat.le_of_ble_eq_true rfl⟩) hw 1 0 rfl rfl rfl hl.1 rfl (Nat.le_of_ble_eq_true rfl) dX0_difference_2 (fun r_2 M_1 H locs h hw => ?_)
  refine lv_i2l (v := r_2.toInt64) X.1 X.2.1 dX0_difference_5 rfl ?_
  refine lv_topl (fun x_3 ex_3 => ?_)
  have h := h x_3 ex_3
  refine lv_lstore_n (lv' := [(3, .long x_3), (0, .ref (η 1)), (1, .int a1), (2, .int a2)]) X.1 X.2.1 dX0_difference_6 rfl hl (by decide) rfl (fun ls hl => ?_)
  refine lv_aload_n X.1 X.2.1 dX0_difference_7 rfl (lv_at hl 1 rfl) ?_
  refine r_gf X inX0_difference_X0 hw 1 rfl rfl 7 (by decide) (X.2.2.2.2 (.fieldLink RX0 88 "TestHall$Calendar" "allTests" "I") (by decide +kernel)) rfl rfl dX0_difference_8 ?_
  refine lv_i2l (v := (gI M_1 2).toInt64) X.1 X.2.1 dX0_difference_11 rfl ?_
  refine lv_lload_n X.1 X.2.1 dX0_difference_12 rfl (lv_at hl 0 rfl) ?_
  refine lv_lsub X.1 X.2.1 dX0_difference_13 ?_
  refine lv_topl (fun x_4 ex_4 => ?_)
  have h := h x_4 ex_4
  refine lv_lstore (lv' := [(5, .long x_4), (3, .long x_3), (0, .ref (η 1)), (1, .int a1), (2, .int a2)]) X.1 X.2.1 dX0_difference_14 hl (by decide) rfl (fun ls hl => ?_)
  refine lv_aload_n X.1 X.2.1 dX0_difference_16 rfl (lv_at hl 2 rfl) ?_
  refine lv_iload_n X.1 X.2.1 dX0_difference_17 rfl (lv_at hl 3 rfl) ?_
  refine r_Vi (As := [.int a1]) (rest := []) X cN_ok (kX0_passesOf h) (cwV 1 X.2.2.2.2 gX0_difference_X0_passesOf rfl rfl rfl (by decide +kernel) ⟨Nat.le_of_ble_eq_true rfl, Nat.le_of_ble_eq_true rfl⟩) hw 1 0 rfl rfl rfl hl.1 rfl (Nat.le_of_ble_eq_true rfl) dX0_difference_18 (fun r_6 M_5 H locs h hw => ?_)
  refine lv_i2l (v := r_6.toInt64) X.1 X.2.1 dX0_difference_21 rfl ?_
  refine lv_topl (fun x_7 ex_7 => ?_)
  have h := h x_7 ex_7
  refine lv_lstore (lv' := [(7, .long x_7), (5, .long x_4), (3, .long x_3), (0, .ref (η 1)), (1, .int a1), (2, .int a2)]) X.1 X.2.1 dX0_difference_22 hl (by decide) rfl (fun ls hl => ?_)
  refine lv_aload_n X.1 X.2.1 dX0_difference_24 rfl (lv_at hl 3 rfl) ?_
  refine r_gf X inX0_difference_X0 hw 1 rfl rfl 8 (by decide) (X.2.2.2.2 (.fieldLink RX0 91 "TestHall$Calendar" "allPasses" "I") (by decide +kernel)) rfl rfl dX0_difference_25 ?_
  refine lv_i2l (v := (gI M_5 3).toInt64) X.1 X.2.1 dX0_difference_28 rfl ?_
  refine lv_lload X.1 X.2.1 dX0_difference_29 (lv_at hl 0 rfl) ?_
  refine lv_lsub X.1 X.2.1 dX0_difference_31 ?_
  refine lv_topl (fun x_8 ex_8 => ?_)
  have h := h x_8 ex_8
  refine lv_lstore (lv' := [(9, .long x_8), (7, .long x_7), (5, .long x_4), (3, .long x_3), (0, .ref (η 1)), (1, .int a1), (2, .int a2)]) X.1 X.2.1 dX0_difference_32 hl (by decide) rfl (fun ls hl => ?_)
  refine lv_lload X.1 X.2.1 dX0_difference_34 (lv_at hl 1 rfl) ?_
  refine lv_lload X.1 X.2.1 dX0_difference_36 (lv_at hl 2 rfl) ?_
  refine lv_lmul X.1 X.2.1 dX0_difference_38 ?_
  refine lv_lload X.1 X.2.1 dX0_difference_39 (lv_at hl 0 rfl) ?_
  refine lv_lload_n X.1 X.2.1 dX0_difference_41 rfl (lv_at hl 3 rfl) ?_
  refine lv_lmul X.1 X.2.1 dX0_difference_42 ?_
  refine lv_lsub X.1 X.2.1 dX0_difference_43 ?_
  refine lv_ldc2 (v := (100 : Int64)) X.1 X.2.1 X.2.2.2.1 (X.2.2.2.2 _ (by decide +kernel)) dX0_difference_44 ?_
  refine lv_lmul X.1 X.2.1 dX0_difference_47 ?_
  refine lv_topl (fun x_9 ex_9 => ?_)
  have h := h x_9 ex_9
  refine lv_lstore (lv' := [(11, .long x_9), (9, .long x_8), (7, .long x_7), (5, .long x_4), (3, .long x_3), (0, .ref (η 1)), (1, .int a1), (2, .int a2)]) X.1 X.2.1 dX0_difference_48 hl (by decide) rfl (fun ls hl => ?_)
  refine lv_iload_n X.1 X.2.1 dX0_difference_50 rfl (lv_at hl 7 rfl) ?_
  refine lv_i2l (v := a2.toInt64) X.1 X.2.1 dX0_difference_51 rfl ?_
  refine lv_lload_n X.1 X.2.1 dX0_difference_52 rfl (lv_at hl 4 rfl) ?_
  refine lv_lmul X.1 X.2.1 dX0_difference_53 ?_
  refine lv_lload X.1 X.2.1 dX0_difference_54 (lv_at hl 3 rfl) ?_
  refine lv_lmul X.1 X.2.1 dX0_difference_56 ?_
  refine lv_topl (fun x_10 ex_10 => ?_)
  have h := h x_10 ex_10
  refine lv_lstore (lv' := [(13, .long x_10), (11, .long x_9), (9, .long x_8), (7, .long x_7), (5, .long x_4), (3, .long x_3), (0, .ref (η 1)), (1, .int a1), (2, .int a2)]) X.1 X.2.1 dX0_difference_57 hl (by decide) rfl (fun ls hl => ?_)
  refine lv_lload X.1 X.2.1 dX0_difference_59 (lv_at hl 1 rfl) ?_
  refine lv_lload X.1 X.2.1 dX0_difference_61 (lv_at hl 0 rfl) ?_
  refine W.lcmp X.1 X.2.1 dX0_difference_63 ?_
  obtain ⟨ht_, hf_⟩ := h
  refine lv_if_le (tgt := 69) X.1 X.2.1 dX0_difference_64 (by decide) (fun c_ => ?_) (fun c_ => ?_)
  · have h := ht_ c_
    refine lv_lload X.1 X.2.1 dX0_difference_69 (lv_at hl 1 rfl) ?_
    refine lv_lload X.1 X.2.1 dX0_difference_71 (lv_at hl 0 rfl) ?_
    refine lv_lneg X.1 X.2.1 dX0_difference_73 ?_
    refine W.lcmp X.1 X.2.1 dX0_difference_74 ?_
    obtain ⟨ht_, hf_⟩ := h
    refine lv_if_ge (tgt := 82) X.1 X.2.1 dX0_difference_75 (by decide) (fun c_ => ?_) (fun c_ => ?_)
    · have h := ht_ c_
      refine lv_iconst (v := (0 : Int32)) X.1 X.2.1 dX0_difference_82 (by decide) ?_
      exact r_ret X hr hlk hw h dX0_difference_83
    · have h := hf_ c_
      refine lv_iconst (v := (-1 : Int32)) X.1 X.2.1 dX0_difference_78 (by decide) ?_
      refine lv_goto (tgt := 83) X.1 X.2.1 dX0_difference_79 (by decide) ?_
      exact r_ret X hr hlk hw h dX0_difference_83
  · have h := hf_ c_
    refine lv_iconst (v := (1 : Int32)) X.1 X.2.1 dX0_difference_67 (by decide) ?_
    exact r_ret X hr hlk hw h dX0_difference_68
