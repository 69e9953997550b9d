theorem inX8_cancel_X1 : ∀ w ∈ wsX10, w ∈ wsX8_cancel := fun w h => List.mem_cons_of_mem _ (List.mem_append_left _ (List.mem_append_left _ (List.mem_append_left _ (List.mem_append_left _ (List.mem_append_right _ h)))))
abbrev rmX8_cancel : Room := { frames := 6, cells := 0, slots := 0, locals := 139 }
def wX8_cancel (n : Nat) (M : Sg) (a1 : Int32) (Q : Sg → Int32 → Prop) : Prop := (wX8_find n M a1 (fun M_1 r_2 => ((r_2 = none → (Q M_1 (-1 : Int32))) ∧ (∀ j_3 : Nat, r_2 = some j_3 → (j_3 < n ∧ (((gA M_1 58 j_3) = (1 : Int32) → (j_3 < n ∧ (∀ (x_4 : Int32), x_4 = (gA M_1 59 j_3) → (wX8_release n M_1 j_3 (fun M_5 => (wX8_moveUp n M_5 x_4 (fun M_7 r_8 => (Q M_7 r_8)))))))) ∧ (¬ (gA M_1 58 j_3) = (1 : Int32) → (Q M_1 (-1 : Int32)))))))))
set_option maxHeartbeats 4000000 in
set_option maxRecDepth 100000 in
theorem kX8_cancel {l : Launch} {D : va_G} {κ : Nat → ClassId} {η : Nat → Nat} {σ : (Nat → Nat) × (Nat → Nat)} {n : Nat} {M : Sg} {a1 : Int32} {Q : Sg → Int32 → Prop} (h : wX8_cancel n M a1 Q) : Ki (cN σ) D (Ky κ) (cw κ η n) l yX8_cancel wsX8_cancel rmX8_cancel [.ref (η 0), .int a1] M Q := by
  refine ofW_g (Qc := fun A => Qi D (Ky κ) (cw κ η n) A Q) (cc := cX8_cancel) (maxL := 4) (ret := (some .int)) (by decide) rfl (Nat.le_of_ble_eq_true rfl) ?_
  intro p e s m args below meth c A ls X hr hlk hw hl
  have hl : lv_has ls 4 [(0, .ref (η 0)), (1, .int a1)] := hl
  refine lv_aload_n X.1 X.2.1 dX8_cancel_0 rfl (lv_at hl 0 rfl) ?_
  refine lv_iload_n X.1 X.2.1 dX8_cancel_1 rfl (lv_at hl 1 rfl) ?_
  refine r_Vq (As := [.int a1]) (rest := []) X cN_ok (kX8_find h) (cwV 1 X.2.2.2.2 gX8_cancel_X8_find rfl rfl rfl (by decide +kernel) ⟨Nat.le_of_ble_eq_true rfl, Nat.le_of_ble_eq_true rfl⟩) hw 0 7 rfl rfl rfl hl.1 rfl (Nat.le_of_ble_eq_true rfl) dX8_cancel_2 (fun M_1 H locs h hw => ?_) (fun j_3 M_1 H locs h hw => ?_)
  · have h := h.1 rfl
    refine lv_astore_nN (lv' := [(2, .null), (0, .ref (η 0)), (1, .int a1)]) X.1 X.2.1 dX8_cancel_5 rfl hl (by decide) rfl (fun ls hl => ?_)
    refine lv_aload_nN X.1 X.2.1 dX8_cancel_6 rfl (lv_at hl 0 rfl) ?_
    refine lv_ifnullN (tgt := 18) X.1 X.2.1 dX8_cancel_7 (by decide) ?_
    refine lv_iconst (v := (-1 : Int32)) X.1 X.2.1 dX8_cancel_18 (by decide) ?_
    exact r_ret X hr hlk hw h dX8_cancel_19
  · have h := h.2 j_3 rfl
    refine lv_astore_n (lv' := [(2, .ref (η (49 + j_3))), (0, .ref (η 0)), (1, .int a1)]) X.1 X.2.1 dX8_cancel_5 rfl hl (by decide) rfl (fun ls hl => ?_)
    refine lv_aload_n X.1 X.2.1 dX8_cancel_6 rfl (lv_at hl 0 rfl) ?_
    refine lv_ifnull X.1 X.2.1 dX8_cancel_7 ?_
    refine lv_aload_n X.1 X.2.1 dX8_cancel_10 rfl (lv_at hl 0 rfl) ?_
    obtain ⟨hj_, h⟩ := h
    refine r_gf X inX8_cancel_X1 hw (49 + j_3) (cw_lrn hj_) rfl 8 (by decide) (X.2.2.2.2 (.fieldLink RX8 140 "TestHall$Learner" "state" "I") (by decide +kernel)) rfl rfl dX8_cancel_11 ?_
    refine lv_iconst (v := (1 : Int32)) X.1 X.2.1 dX8_cancel_14 (by decide) ?_
    obtain ⟨ht_, hf_⟩ := h
    refine lv_icmp_eq (tgt := 20) X.1 X.2.1 dX8_cancel_15 (by decide) (fun c_ => ?_) (fun c_ => ?_)
    · have h := ht_ c_
      refine lv_aload_n X.1 X.2.1 dX8_cancel_20 rfl (lv_at hl 0 rfl) ?_
      obtain ⟨hj_, h⟩ := h
      refine r_gf X inX8_cancel_X1 hw (49 + j_3) (cw_lrn hj_) rfl 9 (by decide) (X.2.2.2.2 (.fieldLink RX8 143 "TestHall$Learner" "slot" "I") (by decide +kernel)) rfl rfl dX8_cancel_21 ?_
      refine lv_topi (fun x_4 ex_4 => ?_)
      have h := h x_4 ex_4
      refine lv_istore_n (lv' := [(3, .int x_4), (2, .ref (η (49 + j_3))), (0, .ref (η 0)), (1, .int a1)]) X.1 X.2.1 dX8_cancel_24 rfl hl (by decide) rfl (fun ls hl => ?_)
      refine lv_aload_n X.1 X.2.1 dX8_cancel_25 rfl (lv_at hl 2 rfl) ?_
      refine lv_aload_n X.1 X.2.1 dX8_cancel_26 rfl (lv_at hl 1 rfl) ?_
      refine r_Vv (As := [.ref (η (49 + j_3))]) (rest := []) X cN_ok (kX8_release h) (cwV 1 X.2.2.2.2 gX8_cancel_X8_release rfl rfl rfl (by decide +kernel) ⟨Nat.le_of_ble_eq_true rfl, Nat.le_of_ble_eq_true rfl⟩) hw 0 7 rfl rfl rfl hl.1 rfl (Nat.le_of_ble_eq_true rfl) dX8_cancel_27 (fun M_5 H locs h hw => ?_)
      refine lv_aload_n X.1 X.2.1 dX8_cancel_30 rfl (lv_at hl 2 rfl) ?_
      refine lv_iload_n X.1 X.2.1 dX8_cancel_31 rfl (lv_at hl 0 rfl) ?_
      refine r_Vi (As := [.int x_4]) (rest := []) X cN_ok (kX8_moveUp h) (cwV 1 X.2.2.2.2 gX8_cancel_X8_moveUp rfl rfl rfl (by decide +kernel) ⟨Nat.le_of_ble_eq_true rfl, Nat.le_of_ble_eq_true rfl⟩) hw 0 7 rfl rfl rfl hl.1 rfl (Nat.le_of_ble_eq_true rfl) dX8_cancel_32 (fun r_8 M_7 H locs h hw => ?_)
      exact r_ret X hr hlk hw h dX8_cancel_35
    · have h := hf_ c_
      refine lv_iconst (v := (-1 : Int32)) X.1 X.2.1 dX8_cancel_18 (by decide) ?_
      exact r_ret X hr hlk hw h dX8_cancel_19

theorem inX8_leave_X1 : ∀ w ∈ wsX10, w ∈ wsX8_leave := fun w h => List.mem_cons_of_mem _ (List.mem_append_left _ (List.mem_append_left _ (List.mem_append_left _ (List.mem_append_left _ (List.mem_append_right _ h)))))
abbrev rmX8_leave : Room := { frames := 6, cells := 0, slots := 0, locals := 139 }
def vX8_leave_45 (n : Nat) (Q : Sg → Int32 → Prop) (M : Sg) (x2 : Nat) (x3 : Int32) : Prop := (x2 < n ∧ (∀ (M_1 : Sg), M_1 = sA M 58 x2 (3 : Int32) → ((x3 = (-1 : Int32) → (Q M_1 (1 : Int32))) ∧ (¬ x3 = (-1 : Int32) → (wX8_moveUp n M_1 x3 (fun M_2 r_3 => (Q M_2 (1 : Int32))))))))
set_option maxHeartbeats 4000000 in
set_option maxRecDepth 100000 in
theorem bX8_leave_45 {p : Program} {l : Launch} {e : Env} {s : State} {m : MethodId} {args : Array Value} {below : List Frame} {meth : Method} {c : Code} {D : va_G} {κ : Nat → ClassId} {η : Nat → Nat} {σ : (Nat → Nat) × (Nat → Nat)} {A : Nat → Prop} {n : Nat} {Q : Sg → Int32 → Prop} (X : CallFix p m c cX8_leave 4 s args wsX8_leave RX8) (hr : meth.sig.returnType = (some .boolean)) (hlk : meth.locks = false) : ∀ (M : Sg) (x2 : Nat) (x3 : Int32) (H : Heap) (locs : List Loc) (ls : Array Slot), vX8_leave_45 n Q M x2 x3 → Wd (cN σ) D (Ky κ) A s (cw κ η n M) H locs → lv_has ls 4 [(0, .ref (η 0)), (2, .ref (η (49 + x2))), (3, .int x3)] → W p l e rmX8_leave s m args below meth c H locs 0 0 (MQ below (Qi D (Ky κ) (cw κ η n) A Q) args s 0 0 A) (F0 m 45 ls []) := by
  intro M x2 x3 H locs ls h hw hl
  refine lv_aload_n X.1 X.2.1 dX8_leave_45 rfl (lv_at hl 1 rfl) ?_
  refine lv_iconst (v := (3 : Int32)) X.1 X.2.1 dX8_leave_46 (by decide) ?_
  obtain ⟨hj_, h⟩ := h
  refine r_pf (ty := .int) (w' := cw κ η n (sA M 58 x2 (3 : Int32))) X inX8_leave_X1 tyX1_ok nmX1 hw (49 + x2) (cw_lrn hj_) rfl 8 (by decide) (X.2.2.2.2 (.fieldLink RX8 140 "TestHall$Learner" "state" "I") (by decide +kernel)) rfl rfl (by decide +kernel) rfl rfl (Nat.le_of_ble_eq_true rfl) (cw_lset8 hj_) dX8_leave_47 (fun H locs hw => ?_)
  obtain ⟨M_1, eM_1⟩ : ∃ y : Sg, y = sA M 58 x2 (3 : Int32) := ⟨_, rfl⟩
  rw [← eM_1] at hw
  have h := h M_1 eM_1
  refine lv_iload_n X.1 X.2.1 dX8_leave_50 rfl (lv_at hl 2 rfl) ?_
  refine lv_iconst (v := (-1 : Int32)) X.1 X.2.1 dX8_leave_51 (by decide) ?_
  obtain ⟨ht_, hf_⟩ := h
  refine lv_icmp_eq (tgt := 61) X.1 X.2.1 dX8_leave_52 (by decide) (fun c_ => ?_) (fun c_ => ?_)
  · have h := ht_ c_
    refine lv_iconst (v := (1 : Int32)) X.1 X.2.1 dX8_leave_61 (by decide) ?_
    exact r_zret X hr hlk hw rfl h dX8_leave_62
  · have h := hf_ c_
    refine lv_aload_n X.1 X.2.1 dX8_leave_55 rfl (lv_at hl 0 rfl) ?_
    refine lv_iload_n X.1 X.2.1 dX8_leave_56 rfl (lv_at hl 2 rfl) ?_
    refine r_Vi (As := [.int x3]) (rest := []) X cN_ok (kX8_moveUp h) (cwV 1 X.2.2.2.2 gX8_leave_X8_moveUp rfl rfl rfl (by decide +kernel) ⟨Nat.le_of_ble_eq_true rfl, Nat.le_of_ble_eq_true rfl⟩) hw 0 7 rfl rfl rfl hl.1 rfl (Nat.le_of_ble_eq_true rfl) dX8_leave_57 (fun r_3 M_2 H locs h hw => ?_)
    refine lv_pop X.1 X.2.1 dX8_leave_60 rfl ?_
    refine lv_iconst (v := (1 : Int32)) X.1 X.2.1 dX8_leave_61 (by decide) ?_
    exact r_zret X hr hlk hw rfl h dX8_leave_62
def vX8_leave_27 (n : Nat) (Q : Sg → Int32 → Prop) (M : Sg) (x2 : Nat) : Prop := (x2 < n ∧ (∀ (x_1 : Int32), x_1 = (gA M 59 x2) → (x2 < n ∧ ((¬ (gA M 58 x2) = (1 : Int32) → (vX8_leave_45 n Q M x2 x_1)) ∧ ((gA M 58 x2) = (1 : Int32) → (wX8_release n M x2 (fun M_2 => (vX8_leave_45 n Q M_2 x2 x_1))))))))
set_option maxHeartbeats 4000000 in
set_option maxRecDepth 100000 in
theorem bX8_leave_27 {p : Program} {l : Launch} {e : Env} {s : State} {m : MethodId} {args : Array Value} {below : List Frame} {meth : Method} {c : Code} {D : va_G} {κ : Nat → ClassId} {η : Nat → Nat} {σ : (Nat → Nat) × (Nat → Nat)} {A : Nat → Prop} {n : Nat} {Q : Sg → Int32 → Prop} (X : CallFix p m c cX8_leave 4 s args wsX8_leave RX8) (hr : meth.sig.returnType = (some .boolean)) (hlk : meth.locks = false) : ∀ (M : Sg) (x2 : Nat) (H : Heap) (locs : List Loc) (ls : Array Slot), vX8_leave_27 n Q M x2 → Wd (cN σ) D (Ky κ) A s (cw κ η n M) H locs → lv_has ls 4 [(0, .ref (η 0)), (2, .ref (η (49 + x2)))] → W p l e rmX8_leave s m args below meth c H locs 0 0 (MQ below (Qi D (Ky κ) (cw κ η n) A Q) args s 0 0 A) (F0 m 27 ls []) := by
  intro M x2 H locs ls h hw hl
  refine lv_aload_n X.1 X.2.1 dX8_leave_27 rfl (lv_at hl 1 rfl) ?_
  obtain ⟨hj_, h⟩ := h
  refine r_gf X inX8_leave_X1 hw (49 + x2) (cw_lrn hj_) rfl 9 (by decide) (X.2.2.2.2 (.fieldLink RX8 143 "TestHall$Learner" "slot" "I") (by decide +kernel)) rfl rfl dX8_leave_28 ?_
  refine lv_topi (fun x_1 ex_1 => ?_)
  have h := h x_1 ex_1
  refine lv_istore_n (lv' := [(3, .int x_1), (0, .ref (η 0)), (2, .ref (η (49 + x2)))]) X.1 X.2.1 dX8_leave_31 rfl hl (by decide) rfl (fun ls hl => ?_)
  refine lv_aload_n X.1 X.2.1 dX8_leave_32 rfl (lv_at hl 2 rfl) ?_
  obtain ⟨hj_, h⟩ := h
  refine r_gf X inX8_leave_X1 hw (49 + x2) (cw_lrn hj_) rfl 8 (by decide) (X.2.2.2.2 (.fieldLink RX8 140 "TestHall$Learner" "state" "I") (by decide +kernel)) rfl rfl dX8_leave_33 ?_
  refine lv_iconst (v := (1 : Int32)) X.1 X.2.1 dX8_leave_36 (by decide) ?_
  obtain ⟨ht_, hf_⟩ := h
  refine lv_icmp_ne (tgt := 45) X.1 X.2.1 dX8_leave_37 (by decide) (fun c_ => ?_) (fun c_ => ?_)
  · have h := ht_ c_
    exact bX8_leave_45 X hr hlk M x2 x_1 _ _ _ h hw (lv_sub hl [1, 2, 0] rfl)
  · have h := hf_ c_
    refine lv_aload_n X.1 X.2.1 dX8_leave_40 rfl (lv_at hl 1 rfl) ?_
    refine lv_aload_n X.1 X.2.1 dX8_leave_41 rfl (lv_at hl 2 rfl) ?_
    refine r_Vv (As := [.ref (η (49 + x2))]) (rest := []) X cN_ok (kX8_release h) (cwV 1 X.2.2.2.2 gX8_leave_X8_release rfl rfl rfl (by decide +kernel) ⟨Nat.le_of_ble_eq_true rfl, Nat.le_of_ble_eq_true rfl⟩) hw 0 7 rfl rfl rfl hl.1 rfl (Nat.le_of_ble_eq_true rfl) dX8_leave_42 (fun M_2 H locs h hw => ?_)
    exact bX8_leave_45 X hr hlk M_2 x2 x_1 _ _ _ h hw (lv_sub hl [1, 2, 0] rfl)
def wX8_leave (n : Nat) (M : Sg) (a1 : Int32) (Q : Sg → Int32 → Prop) : Prop := (wX8_find n M a1 (fun M_1 r_2 => ((r_2 = none → (Q M_1 (0 : Int32))) ∧ (∀ j_3 : Nat, r_2 = some j_3 → (j_3 < n ∧ (((gA M_1 58 j_3) = 0 → (vX8_leave_27 n Q M_1 j_3)) ∧ (¬ (gA M_1 58 j_3) = 0 → (j_3 < n ∧ (((gA M_1 58 j_3) = (1 : Int32) → (vX8_leave_27 n Q M_1 j_3)) ∧ (¬ (gA M_1 58 j_3) = (1 : Int32) → (Q M_1 (0 : Int32))))))))))))
set_option maxHeartbeats 4000000 in
set_option maxRecDepth 100000 in
theorem kX8_leave {l : Launch} {D : va_G} {κ : Nat → ClassId} {η : Nat → Nat} {σ : (Nat → Nat) × (Nat → Nat)} {n : Nat} {M : Sg} {a1 : Int32} {Q : Sg → Int32 → Prop} (h : wX8_leave n M a1 Q) : Ki (cN σ) D (Ky κ) (cw κ η n) l yX8_leave wsX8_leave rmX8_leave [.ref (η 0), .int a1] M Q := by
  refine ofW_g (Qc := fun A => Qi D (Ky κ) (cw κ η n) A Q) (cc := cX8_leave) (maxL := 4) (ret := (some .boolean)) (by decide) rfl (Nat.le_of_ble_eq_true rfl) ?_
  intro p e s m args below meth c A ls X hr hlk hw hl
  have hl : lv_has ls 4 [(0, .ref (η 0)), (1, .int a1)] := hl
  refine lv_aload_n X.1 X.2.1 dX8_leave_0 rfl (lv_at hl 0 rfl) ?_
  refine lv_iload_n X.1 X.2.1 dX8_leave_1 rfl (lv_at hl 1 rfl) ?_
  refine r_Vq (As := [.int a1]) (rest := []) X cN_ok (kX8_find h) (cwV 1 X.2.2.2.2 gX8_leave_X8_find rfl rfl rfl (by decide +kernel) ⟨Nat.le_of_ble_eq_true rfl, Nat.le_of_ble_eq_true rfl⟩) hw 0 7 rfl rfl rfl hl.1 rfl (Nat.le_of_ble_eq_true rfl) dX8_leave_2 (fun M_1 H locs h hw => ?_) (fun j_3 M_1 H locs h hw => ?_)
  · have h := h.1 rfl
    refine lv_astore_nN (lv' := [(2, .null), (0, .ref (η 0)), (1, .int a1)]) X.1 X.2.1 dX8_leave_5 rfl hl (by decide) rfl (fun ls hl => ?_)
    refine lv_aload_nN X.1 X.2.1 dX8_leave_6 rfl (lv_at hl 0 rfl) ?_
    refine lv_ifnullN (tgt := 25) X.1 X.2.1 dX8_leave_7 (by decide) ?_
    refine lv_iconst (v := (0 : Int32)) X.1 X.2.1 dX8_leave_25 (by decide) ?_
    exact r_zret X hr hlk hw rfl h dX8_leave_26
  · have h := h.2 j_3 rfl
    refine lv_astore_n (lv' := [(2, .ref (η (49 + j_3))), (0, .ref (η 0)), (1, .int a1)]) X.1 X.2.1 dX8_leave_5 rfl hl (by decide) rfl (fun ls hl => ?_)
    refine lv_aload_n X.1 X.2.1 dX8_leave_6 rfl (lv_at hl 0 rfl) ?_
    refine lv_ifnull X.1 X.2.1 dX8_leave_7 ?_
    refine lv_aload_n X.1 X.2.1 dX8_leave_10 rfl (lv_at hl 0 rfl) ?_
    obtain ⟨hj_, h⟩ := h
    refine r_gf X inX8_leave_X1 hw (49 + j_3) (cw_lrn hj_) rfl 8 (by decide) (X.2.2.2.2 (.fieldLink RX8 140 "TestHall$Learner" "state" "I") (by decide +kernel)) rfl rfl dX8_leave_11 ?_
    obtain ⟨ht_, hf_⟩ := h
    refine lv_if_eq (tgt := 27) X.1 X.2.1 dX8_leave_14 (by decide) (fun c_ => ?_) (fun c_ => ?_)
    · have h := ht_ c_
      exact bX8_leave_27 X hr hlk M_1 j_3 _ _ _ h hw (lv_sub hl [1, 0] rfl)
    · have h := hf_ c_
      refine lv_aload_n X.1 X.2.1 dX8_leave_17 rfl (lv_at hl 0 rfl) ?_
      obtain ⟨hj_, h⟩ := h
      refine r_gf X inX8_leave_X1 hw (49 + j_3) (cw_lrn hj_) rfl 8 (by decide) (X.2.2.2.2 (.fieldLink RX8 140 "TestHall$Learner" "state" "I") (by decide +kernel)) rfl rfl dX8_leave_18 ?_
      refine lv_iconst (v := (1 : Int32)) X.1 X.2.1 dX8_leave_21 (by decide) ?_
      obtain ⟨ht_, hf_⟩ := h
      refine lv_icmp_eq (tgt := 27) X.1 X.2.1 dX8_leave_22 (by decide) (fun c_ => ?_) (fun c_ => ?_)
      · have h := ht_ c_
        exact bX8_leave_27 X hr hlk M_1 j_3 _ _ _ h hw (lv_sub hl [1, 0] rfl)
      · have h := hf_ c_
        refine lv_iconst (v := (0 : Int32)) X.1 X.2.1 dX8_leave_25 (by decide) ?_
        exact r_zret X hr hlk hw rfl h dX8_leave_26

theorem inX8_shut_X0 : ∀ w ∈ wsX00, w ∈ wsX8_shut := fun w h => List.mem_cons_of_mem _ (List.mem_append_left _ (List.mem_append_left _ (List.mem_append_left _ (List.mem_append_right _ h))))
theorem inX8_shut_X1 : ∀ w ∈ wsX10, w ∈ wsX8_shut := fun w h => List.mem_cons_of_mem _ (List.mem_append_left _ (List.mem_append_left _ (List.mem_append_right _ h)))
theorem inX8_shut_X2 : ∀ w ∈ wsX20, w ∈ wsX8_shut := fun w h => List.mem_cons_of_mem _ (List.mem_append_left _ (List.mem_append_right _ h))
theorem inX8_shut_X8 : ∀ w ∈ wsX80, w ∈ wsX8_shut := fun w h => List.mem_cons_of_mem _ (List.mem_append_left _ (List.mem_append_left _ (List.mem_append_left _ (List.mem_append_left _ (List.mem_append_right _ h)))))
abbrev rmX8_shut : Room := { frames := 7, cells := 0, slots := 0, locals := 164 }
def vX8_shut_100 (n : Nat) (K48 : Sg → Int32 → Int32 → Prop) (Q : Sg → Int32 → Prop) (M : Sg) (x1 : Int32) (x2 : Int32) : Prop := (∀ (x_1 : Int32), x_1 = x2 + (1 : Int32) → (K48 M x1 x_1))
set_option maxHeartbeats 4000000 in
set_option maxRecDepth 100000 in
theorem bX8_shut_100 {p : Program} {l : Launch} {e : Env} {s : State} {m : MethodId} {args : Array Value} {below : List Frame} {meth : Method} {c : Code} {D : va_G} {κ : Nat → ClassId} {η : Nat → Nat} {σ : (Nat → Nat) × (Nat → Nat)} {A : Nat → Prop} {n : Nat} {Q : Sg → Int32 → Prop} {K48 : Sg → Int32 → Int32 → Prop} (X : CallFix p m c cX8_shut 4 s args wsX8_shut RX8) (hr : meth.sig.returnType = (some .int)) (hlk : meth.locks = false) (hK48 : ∀ (M : Sg) (x1 : Int32) (x2 : Int32) (H : Heap) (locs : List Loc) (ls : Array Slot), K48 M x1 x2 → Wd (cN σ) D (Ky κ) A s (cw κ η n M) H locs → lv_has ls 4 [(0, .ref (η 0)), (1, .int x1), (2, .int x2)] → W p l e rmX8_shut s m args below meth c H locs 0 0 (MQ below (Qi D (Ky κ) (cw κ η n) A Q) args s 0 0 A) (F0 m 48 ls [])) : ∀ (M : Sg) (x1 : Int32) (x2 : Int32) (H : Heap) (locs : List Loc) (ls : Array Slot), vX8_shut_100 n K48 Q M x1 x2 → Wd (cN σ) D (Ky κ) A s (cw κ η n M) H locs → lv_has ls 4 [(0, .ref (η 0)), (1, .int x1), (2, .int x2)] → W p l e rmX8_shut s m args below meth c H locs 0 0 (MQ below (Qi D (Ky κ) (cw κ η n) A Q) args s 0 0 A) (F0 m 100 ls []) := by
  intro M x1 x2 H locs ls h hw hl
  obtain ⟨x_1, ex_1⟩ : ∃ y : Int32, y = x2 + (1 : Int32) := ⟨_, rfl⟩
  have h := h x_1 ex_1
  refine lv_iinc (v := x_1) (lv' := [(2, .int x_1), (0, .ref (η 0)), (1, .int x1)]) X.1 X.2.1 dX8_shut_100 hl (k := 2) rfl (by rw [ex_1]; rfl) (by decide) rfl (fun ls hl => ?_)
  refine lv_goto (tgt := 48) X.1 X.2.1 dX8_shut_103 (by decide) ?_
  exact hK48 M x1 x_1 _ _ _ h hw (lv_sub hl [1, 2, 0] rfl)
def vX8_shut_48 (n : Nat) (Q : Sg → Int32 → Prop) : Nat → Sg → Int32 → Int32 → Prop
  | 0, _, _, _ => False
  | f48_ + 1, M, x1, x2 => (((gI M 23) ≤ x2 → (wX8_dealLine n M (fun M_1 r_2 => (Q M_1 ((gI M 4) - r_2))))) ∧ (¬ (gI M 23) ≤ x2 → ((vp_in x2 60 ∧ x2.toNatClampNeg < n) ∧ ((x2.toNatClampNeg) < n ∧ ((¬ (gA M 58 (x2.toNatClampNeg)) = (1 : Int32) → (vX8_shut_100 n (vX8_shut_48 n Q f48_) Q M x1 x2)) ∧ ((gA M 58 (x2.toNatClampNeg)) = (1 : Int32) → ((x2.toNatClampNeg) < n ∧ (wX8_dayOf n M (gA M 59 (x2.toNatClampNeg)) (fun M_3 r_4 => ((¬ r_4 = x1 → (vX8_shut_100 n (vX8_shut_48 n Q f48_) Q M_3 x1 x2)) ∧ (r_4 = x1 → (wX8_release n M_3 (x2.toNatClampNeg) (fun M_5 => (wX8_rankOf n M_5 (x2.toNatClampNeg) (fun M_7 r_8 => (wX2_add n M_7 x2 r_8 (fun M_9 => (vX8_shut_100 n (vX8_shut_48 n Q f48_) Q M_9 x1 x2))))))))))))))))))
set_option maxHeartbeats 4000000 in
set_option maxRecDepth 100000 in
theorem bX8_shut_48 {p : Program} {l : Launch} {e : Env} {s : State} {m : MethodId} {args : Array Value} {below : List Frame} {meth : Method} {c : Code} {D : va_G} {κ : Nat → ClassId} {η : Nat → Nat} {σ : (Nat → Nat) × (Nat → Nat)} {A : Nat → Prop} {n : Nat} {Q : Sg → Int32 → Prop} (X : CallFix p m c cX8_shut 4 s args wsX8_shut RX8) (hr : meth.sig.returnType = (some .int)) (hlk : meth.locks = false) : ∀ (f_ : Nat) (M : Sg) (x1 : Int32) (x2 : Int32) (H : Heap) (locs : List Loc) (ls : Array Slot), vX8_shut_48 n Q f_ M x1 x2 → Wd (cN σ) D (Ky κ) A s (cw κ η n M) H locs → lv_has ls 4 [(0, .ref (η 0)), (1, .int x1), (2, .int x2)] → W p l e rmX8_shut s m args below meth c H locs 0 0 (MQ below (Qi D (Ky κ) (cw κ η n) A Q) args s 0 0 A) (F0 m 48 ls []) := by
  intro f_
  induction f_ with
  | zero => intro M x1 x2 H locs ls h; exact h.elim
  | succ f_ hK48 =>
    intro M x1 x2 H locs ls h hw hl
    refine lv_iload_n X.1 X.2.1 dX8_shut_48 rfl (lv_at hl 2 rfl) ?_
    refine lv_aload_n X.1 X.2.1 dX8_shut_49 rfl (lv_at hl 0 rfl) ?_
    refine r_gf X inX8_shut_X8 hw 0 rfl rfl 9 (by decide) (X.2.2.2.2 (.fieldLink RX8 64 "TestHall" "learnerCount" "I") (by decide +kernel)) rfl rfl dX8_shut_50 ?_
    obtain ⟨ht_, hf_⟩ := h
    refine lv_icmp_ge (tgt := 106) X.1 X.2.1 dX8_shut_53 (by decide) (fun c_ => ?_) (fun c_ => ?_)
    · have h := ht_ c_
      refine lv_aload_n X.1 X.2.1 dX8_shut_106 rfl (lv_at hl 0 rfl) ?_
      refine r_gf X inX8_shut_X8 hw 0 rfl rfl 2 (by decide) (X.2.2.2.2 (.fieldLink RX8 25 "TestHall" "line" "LTestHall$Line;") (by decide +kernel)) rfl rfl dX8_shut_107 ?_
      refine r_gf X inX8_shut_X2 hw 2 rfl rfl 2 (by decide) (X.2.2.2.2 (.fieldLink RX8 173 "TestHall$Line" "size" "I") (by decide +kernel)) rfl rfl dX8_shut_110 ?_
      refine lv_aload_n X.1 X.2.1 dX8_shut_113 rfl (lv_at hl 0 rfl) ?_
      refine r_Vi (As := []) (rest := [.int (gI M 4)]) X cN_ok (kX8_dealLine h) (cwV 0 X.2.2.2.2 gX8_shut_X8_dealLine rfl rfl rfl (by decide +kernel) ⟨Nat.le_of_ble_eq_true rfl, Nat.le_of_ble_eq_true rfl⟩) hw 0 7 rfl rfl rfl hl.1 rfl (Nat.le_of_ble_eq_true rfl) dX8_shut_114 (fun r_2 M_1 H locs h hw => ?_)
      refine lv_isub X.1 X.2.1 dX8_shut_117 ?_
      exact r_ret X hr hlk hw h dX8_shut_118
    · have h := hf_ c_
      refine lv_aload_n X.1 X.2.1 dX8_shut_56 rfl (lv_at hl 0 rfl) ?_
      refine r_gf X inX8_shut_X8 hw 0 rfl rfl 1 (by decide) (X.2.2.2.2 (.fieldLink RX8 18 "TestHall" "learners" "[LTestHall$Learner;") (by decide +kernel)) rfl rfl dX8_shut_57 ?_
      refine lv_iload_n X.1 X.2.1 dX8_shut_60 rfl (lv_at hl 2 rfl) ?_
      obtain ⟨hi_, h⟩ := h
      refine r_lrn X hw hi_.1 hi_.2 dX8_shut_61 ?_
      refine lv_astore_n (lv' := [(3, .ref (η (49 + (x2.toNatClampNeg)))), (0, .ref (η 0)), (1, .int x1), (2, .int x2)]) X.1 X.2.1 dX8_shut_62 rfl hl (by decide) rfl (fun ls hl => ?_)
      refine lv_aload_n X.1 X.2.1 dX8_shut_63 rfl (lv_at hl 0 rfl) ?_
      obtain ⟨hj_, h⟩ := h
      refine r_gf X inX8_shut_X1 hw (49 + (x2.toNatClampNeg)) (cw_lrn hj_) rfl 8 (by decide) (X.2.2.2.2 (.fieldLink RX8 140 "TestHall$Learner" "state" "I") (by decide +kernel)) rfl rfl dX8_shut_64 ?_
      refine lv_iconst (v := (1 : Int32)) X.1 X.2.1 dX8_shut_67 (by decide) ?_
      obtain ⟨ht_, hf_⟩ := h
      refine lv_icmp_ne (tgt := 100) X.1 X.2.1 dX8_shut_68 (by decide) (fun c_ => ?_) (fun c_ => ?_)
      · have h := ht_ c_
        exact bX8_shut_100 X hr hlk hK48 M x1 x2 _ _ _ h hw (lv_sub hl [1, 2, 3] rfl)
      · have h := hf_ c_
        refine lv_aload_n X.1 X.2.1 dX8_shut_71 rfl (lv_at hl 0 rfl) ?_
        obtain ⟨hj_, h⟩ := h
        refine r_gf X inX8_shut_X1 hw (49 + (x2.toNatClampNeg)) (cw_lrn hj_) rfl 9 (by decide) (X.2.2.2.2 (.fieldLink RX8 143 "TestHall$Learner" "slot" "I") (by decide +kernel)) rfl rfl dX8_shut_72 ?_
        refine r_Si (As := [.int (gA M 59 (x2.toNatClampNeg))]) (rest := []) X cN_ok (kX8_dayOf h) (va_cwS 1 X.2.2.2.2 gX8_shut_X8_dayOf rfl rfl rfl (by decide +kernel) ⟨Nat.le_of_ble_eq_true rfl, Nat.le_of_ble_eq_true rfl⟩) hw rfl hl.1 rfl (Nat.le_of_ble_eq_true rfl) dX8_shut_75 (fun r_4 M_3 H locs h hw => ?_)
        refine lv_iload_n X.1 X.2.1 dX8_shut_78 rfl (lv_at hl 2 rfl) ?_
        obtain ⟨ht_, hf_⟩ := h
        refine lv_icmp_ne (tgt := 100) X.1 X.2.1 dX8_shut_79 (by decide) (fun c_ => ?_) (fun c_ => ?_)
        · have h := ht_ c_
          exact bX8_shut_100 X hr hlk hK48 M_3 x1 x2 _ _ _ h hw (lv_sub hl [1, 2, 3] rfl)
        · have h := hf_ c_
          refine lv_aload_n X.1 X.2.1 dX8_shut_82 rfl (lv_at hl 1 rfl) ?_
          refine lv_aload_n X.1 X.2.1 dX8_shut_83 rfl (lv_at hl 0 rfl) ?_
          refine r_Vv (As := [.ref (η (49 + (x2.toNatClampNeg)))]) (rest := []) X cN_ok (kX8_release h) (cwV 1 X.2.2.2.2 gX8_shut_X8_release rfl rfl rfl (by decide +kernel) ⟨Nat.le_of_ble_eq_true rfl, Nat.le_of_ble_eq_true rfl⟩) hw 0 7 rfl rfl rfl hl.1 rfl (Nat.le_of_ble_eq_true rfl) dX8_shut_84 (fun M_5 H locs h hw => ?_)
          refine lv_aload_n X.1 X.2.1 dX8_shut_87 rfl (lv_at hl 1 rfl) ?_
          refine r_gf X inX8_shut_X8 hw 0 rfl rfl 2 (by decide) (X.2.2.2.2 (.fieldLink RX8 25 "TestHall" "line" "LTestHall$Line;") (by decide +kernel)) rfl rfl dX8_shut_88 ?_
          refine lv_iload_n X.1 X.2.1 dX8_shut_91 rfl (lv_at hl 3 rfl) ?_
          refine lv_aload_n X.1 X.2.1 dX8_shut_92 rfl (lv_at hl 1 rfl) ?_
          refine lv_aload_n X.1 X.2.1 dX8_shut_93 rfl (lv_at hl 0 rfl) ?_
          refine r_Vi (As := [.ref (η (49 + (x2.toNatClampNeg)))]) (rest := [.int x2, .ref (η 2)]) X cN_ok (kX8_rankOf h) (cwV 1 X.2.2.2.2 gX8_shut_X8_rankOf rfl rfl rfl (by decide +kernel) ⟨Nat.le_of_ble_eq_true rfl, Nat.le_of_ble_eq_true rfl⟩) hw 0 7 rfl rfl rfl hl.1 rfl (Nat.le_of_ble_eq_true rfl) dX8_shut_94 (fun r_8 M_7 H locs h hw => ?_)
          refine r_Vv (As := [.int x2, .int r_8]) (rest := []) X cN_ok (kX2_add h) (cwV 2 X.2.2.2.2 gX8_shut_X2_add rfl rfl rfl (by decide +kernel) ⟨Nat.le_of_ble_eq_true rfl, Nat.le_of_ble_eq_true rfl⟩) hw 2 2 rfl rfl rfl hl.1 rfl (Nat.le_of_ble_eq_true rfl) dX8_shut_97 (fun M_9 H locs h hw => ?_)
          exact bX8_shut_100 X hr hlk hK48 M_9 x1 x2 _ _ _ h hw (lv_sub hl [1, 2, 3] rfl)
def wX8_shut (n : Nat) (M : Sg) (a1 : Int32) (Q : Sg → Int32 → Prop) : Prop := (wX8_isDay n M a1 (fun M_1 r_2 => ((r_2 = 0 → (Q M_1 (-1 : Int32))) ∧ (¬ r_2 = 0 → ((a1 ≤ (gI M_1 1) → (Q M_1 (-1 : Int32))) ∧ (¬ a1 ≤ (gI M_1 1) → (wX0_isShut n M_1 a1 (fun M_3 r_4 => ((r_4 = 0 → (wX0_shutDay n M_3 a1 (fun M_5 => (wX2_clear n M_5 (fun M_7 => (∃ g48_ : Nat, vX8_shut_48 n Q g48_ M_7 a1 (0 : Int32))))))) ∧ (¬ r_4 = 0 → (Q M_3 (-1 : Int32))))))))))))
set_option maxHeartbeats 4000000 in
set_option maxRecDepth 100000 in
theorem kX8_shut {l : Launch} {D : va_G} {κ : Nat → ClassId} {η : Nat → Nat} {σ : (Nat → Nat) × (Nat → Nat)} {n : Nat} {M : Sg} {a1 : Int32} {Q : Sg → Int32 → Prop} (h : wX8_shut n M a1 Q) : Ki (cN σ) D (Ky κ) (cw κ η n) l yX8_shut wsX8_shut rmX8_shut [.ref (η 0), .int a1] M Q := by
  refine ofW_g (Qc := fun A => Qi D (Ky κ) (cw κ η n) A Q) (cc := cX8_shut) (maxL := 4) (ret := (some .int)) (by decide) rfl (Nat.le_of_ble_eq_true rfl) ?_
  intro p e s m args below meth c A ls X hr hlk hw hl
  have hl : lv_has ls 4 [(0, .ref (η 0)), (1, .int a1)] := hl
  refine lv_iload_n X.1 X.2.1 dX8_shut_0 rfl (lv_at hl 1 rfl) ?_
  refine r_Si (As := [.int a1]) (rest := []) X cN_ok (kX8_isDay h) (va_cwS 1 X.2.2.2.2 gX8_shut_X8_isDay rfl rfl rfl (by decide +kernel) ⟨Nat.le_of_ble_eq_true rfl, Nat.le_of_ble_eq_true rfl⟩) hw rfl hl.1 rfl (Nat.le_of_ble_eq_true rfl) dX8_shut_1 (fun r_2 M_1 H locs h hw => ?_)
  obtain ⟨ht_, hf_⟩ := h
  refine lv_if_eq (tgt := 29) X.1 X.2.1 dX8_shut_4 (by decide) (fun c_ => ?_) (fun c_ => ?_)
  · have h := ht_ c_
    refine lv_iconst (v := (-1 : Int32)) X.1 X.2.1 dX8_shut_29 (by decide) ?_
    exact r_ret X hr hlk hw h dX8_shut_30
  · have h := hf_ c_
    refine lv_iload_n X.1 X.2.1 dX8_shut_7 rfl (lv_at hl 1 rfl) ?_
    refine lv_aload_n X.1 X.2.1 dX8_shut_8 rfl (lv_at hl 0 rfl) ?_
    refine r_gf X inX8_shut_X8 hw 0 rfl rfl 0 (by decide) (X.2.2.2.2 (.fieldLink RX8 12 "TestHall" "calendar" "LTestHall$Calendar;") (by decide +kernel)) rfl rfl dX8_shut_9 ?_
    refine r_gf X inX8_shut_X0 hw 1 rfl rfl 6 (by decide) (X.2.2.2.2 (.fieldLink RX8 80 "TestHall$Calendar" "now" "I") (by decide +kernel)) rfl rfl dX8_shut_12 ?_
    obtain ⟨ht_, hf_⟩ := h
    refine lv_icmp_le (tgt := 29) X.1 X.2.1 dX8_shut_15 (by decide) (fun c_ => ?_) (fun c_ => ?_)
    · have h := ht_ c_
      refine lv_iconst (v := (-1 : Int32)) X.1 X.2.1 dX8_shut_29 (by decide) ?_
      exact r_ret X hr hlk hw h dX8_shut_30
    · have h := hf_ c_
      refine lv_aload_n X.1 X.2.1 dX8_shut_18 rfl (lv_at hl 0 rfl) ?_
      refine r_gf X inX8_shut_X8 hw 0 rfl rfl 0 (by decide) (X.2.2.2.2 (.fieldLink RX8 12 "TestHall" "calendar" "LTestHall$Calendar;") (by decide +kernel)) rfl rfl dX8_shut_19 ?_
      refine lv_iload_n X.1 X.2.1 dX8_shut_22 rfl (lv_at hl 1 rfl) ?_
      refine r_Vi (As := [.int a1]) (rest := []) X cN_ok (kX0_isShut h) (cwV 1 X.2.2.2.2 gX8_shut_X0_isShut rfl rfl rfl (by decide +kernel) ⟨Nat.le_of_ble_eq_true rfl, Nat.le_of_ble_eq_true rfl⟩) hw 1 0 rfl rfl rfl hl.1 rfl (Nat.le_of_ble_eq_true rfl) dX8_shut_23 (fun r_4 M_3 H locs h hw => ?_)
      obtain ⟨ht_, hf_⟩ := h
      refine lv_if_eq (tgt := 31) X.1 X.2.1 dX8_shut_26 (by decide) (fun c_ => ?_) (fun c_ => ?_)
      · have h := ht_ c_
        refine lv_aload_n X.1 X.2.1 dX8_shut_31 rfl (lv_at hl 0 rfl) ?_
        refine r_gf X inX8_shut_X8 hw 0 rfl rfl 0 (by decide) (X.2.2.2.2 (.fieldLink RX8 12 "TestHall" "calendar" "LTestHall$Calendar;") (by decide +kernel)) rfl rfl dX8_shut_32 ?_
        refine lv_iload_n X.1 X.2.1 dX8_shut_35 rfl (lv_at hl 1 rfl) ?_
        refine r_Vv (As := [.int a1]) (rest := []) X cN_ok (kX0_shutDay h) (cwV 1 X.2.2.2.2 gX8_shut_X0_shutDay rfl rfl rfl (by decide +kernel) ⟨Nat.le_of_ble_eq_true rfl, Nat.le_of_ble_eq_true rfl⟩) hw 1 0 rfl rfl rfl hl.1 rfl (Nat.le_of_ble_eq_true rfl) dX8_shut_36 (fun M_5 H locs h hw => ?_)
        refine lv_aload_n X.1 X.2.1 dX8_shut_39 rfl (lv_at hl 0 rfl) ?_
        refine r_gf X inX8_shut_X8 hw 0 rfl rfl 2 (by decide) (X.2.2.2.2 (.fieldLink RX8 25 "TestHall" "line" "LTestHall$Line;") (by decide +kernel)) rfl rfl dX8_shut_40 ?_
        refine r_Vv (As := []) (rest := []) X cN_ok (kX2_clear h) (cwV 0 X.2.2.2.2 gX8_shut_X2_clear rfl rfl rfl (by decide +kernel) ⟨Nat.le_of_ble_eq_true rfl, Nat.le_of_ble_eq_true rfl⟩) hw 2 2 rfl rfl rfl hl.1 rfl (Nat.le_of_ble_eq_true rfl) dX8_shut_43 (fun M_7 H locs h hw => ?_)
        refine lv_iconst (v := (0 : Int32)) X.1 X.2.1 dX8_shut_46 (by decide) ?_
        refine lv_istore_n (lv' := [(2, .int (0 : Int32)), (0, .ref (η 0)), (1, .int a1)]) X.1 X.2.1 dX8_shut_47 rfl hl (by decide) rfl (fun ls hl => ?_)
        obtain ⟨f_, h⟩ := h
        exact bX8_shut_48 X hr hlk f_ M_7 a1 (0 : Int32) _ _ _ h hw (lv_sub hl [1, 2, 0] rfl)
      · have h := hf_ c_
        refine lv_iconst (v := (-1 : Int32)) X.1 X.2.1 dX8_shut_29 (by decide) ?_
        exact r_ret X hr hlk hw h dX8_shut_30

theorem inX8_days_X0 : ∀ w ∈ wsX00, w ∈ wsX8_days := fun w h => List.mem_cons_of_mem _ (List.mem_append_left _ (List.mem_append_right _ h))
theorem inX8_days_X1 : ∀ w ∈ wsX10, w ∈ wsX8_days := fun w h => List.mem_cons_of_mem _ (List.mem_append_right _ h)
theorem inX8_days_X8 : ∀ w ∈ wsX80, w ∈ wsX8_days := fun w h => List.mem_cons_of_mem _ (List.mem_append_left _ (List.mem_append_left _ (List.mem_append_right _ h)))
abbrev rmX8_days : Room := { frames := 3, cells := 0, slots := 0, locals := 64 }
def vX8_days_87 (n : Nat) (K42 : Sg → Int32 → Prop) (Q : Sg → Int32 → Prop) (M : Sg) (x2 : Int32) : Prop := (∀ (x_1 : Int32), x_1 = x2 + (1 : Int32) → (K42 M x_1))
set_option maxHeartbeats 4000000 in
set_option maxRecDepth 100000 in
theorem bX8_days_87 {p : Program} {l : Launch} {e : Env} {s : State} {m : MethodId} {args : Array Value} {below : List Frame} {meth : Method} {c : Code} {D : va_G} {κ : Nat → ClassId} {η : Nat → Nat} {σ : (Nat → Nat) × (Nat → Nat)} {A : Nat → Prop} {n : Nat} {Q : Sg → Int32 → Prop} {K42 : Sg → Int32 → Prop} (X : CallFix p m c cX8_days 4 s args wsX8_days RX8) (hr : meth.sig.returnType = (some .int)) (hlk : meth.locks = false) (hK42 : ∀ (M : Sg) (x2 : Int32) (H : Heap) (locs : List Loc) (ls : Array Slot), K42 M x2 → Wd (cN σ) D (Ky κ) A s (cw κ η n M) H locs → lv_has ls 4 [(0, .ref (η 0)), (2, .int x2)] → W p l e rmX8_days s m args below meth c H locs 0 0 (MQ below (Qi D (Ky κ) (cw κ η n) A Q) args s 0 0 A) (F0 m 42 ls [])) : ∀ (M : Sg) (x2 : Int32) (H : Heap) (locs : List Loc) (ls : Array Slot), vX8_days_87 n K42 Q M x2 → Wd (cN σ) D (Ky κ) A s (cw κ η n M) H locs → lv_has ls 4 [(0, .ref (η 0)), (2, .int x2)] → W p l e rmX8_days s m args below meth c H locs 0 0 (MQ below (Qi D (Ky κ) (cw κ η n) A Q) args s 0 0 A) (F0 m 87 ls []) := by
  intro M x2 H locs ls h hw hl
  obtain ⟨x_1, ex_1⟩ : ∃ y : Int32, y = x2 + (1 : Int32) := ⟨_, rfl⟩
  have h := h x_1 ex_1
  refine lv_iinc (v := x_1) (lv' := [(2, .int x_1), (0, .ref (η 0))]) X.1 X.2.1 dX8_days_87 hl (k := 1) rfl (by rw [ex_1]; rfl) (by decide) rfl (fun ls hl => ?_)
  refine lv_goto (tgt := 42) X.1 X.2.1 dX8_days_90 (by decide) ?_
  exact hK42 M x_1 _ _ _ h hw (lv_sub hl [1, 0] rfl)
def vX8_days_42 (n : Nat) (Q : Sg → Int32 → Prop) : Nat → Sg → Int32 → Prop
  | 0, _, _ => False
  | f42_ + 1, M, x2 => (((gI M 23) ≤ x2 → (Q M (gI M 1))) ∧ (¬ (gI M 23) ≤ x2 → ((vp_in x2 60 ∧ x2.toNatClampNeg < n) ∧ ((x2.toNatClampNeg) < n ∧ ((¬ (gA M 58 (x2.toNatClampNeg)) = (1 : Int32) → (vX8_days_87 n (vX8_days_42 n Q f42_) Q M x2)) ∧ ((gA M 58 (x2.toNatClampNeg)) = (1 : Int32) → ((x2.toNatClampNeg) < n ∧ (wX8_dayOf n M (gA M 59 (x2.toNatClampNeg)) (fun M_1 r_2 => (((gI M_1 1) ≤ r_2 → (vX8_days_87 n (vX8_days_42 n Q f42_) Q M_1 x2)) ∧ (¬ (gI M_1 1) ≤ r_2 → (wX8_release n M_1 (x2.toNatClampNeg) (fun M_3 => (vX8_days_87 n (vX8_days_42 n Q f42_) Q M_3 x2))))))))))))))
set_option maxHeartbeats 4000000 in
set_option maxRecDepth 100000 in
theorem bX8_days_42 {p : Program} {l : Launch} {e : Env} {s : State} {m : MethodId} {args : Array Value} {below : List Frame} {meth : Method} {c : Code} {D : va_G} {κ : Nat → ClassId} {η : Nat → Nat} {σ : (Nat → Nat) × (Nat → Nat)} {A : Nat → Prop} {n : Nat} {Q : Sg → Int32 → Prop} (X : CallFix p m c cX8_days 4 s args wsX8_days RX8) (hr : meth.sig.returnType = (some .int)) (hlk : meth.locks = false) : ∀ (f_ : Nat) (M : Sg) (x2 : Int32) (H : Heap) (locs : List Loc) (ls : Array Slot), vX8_days_42 n Q f_ M x2 → Wd (cN σ) D (Ky κ) A s (cw κ η n M) H locs → lv_has ls 4 [(0, .ref (η 0)), (2, .int x2)] → W p l e rmX8_days s m args below meth c H locs 0 0 (MQ below (Qi D (Ky κ) (cw κ η n) A Q) args s 0 0 A) (F0 m 42 ls []) := by
  intro f_
  induction f_ with
  | zero => intro M x2 H locs ls h; exact h.elim
  | succ f_ hK42 =>
    intro M x2 H locs ls h hw hl
    refine lv_iload_n X.1 X.2.1 dX8_days_42 rfl (lv_at hl 1 rfl) ?_
    refine lv_aload_n X.1 X.2.1 dX8_days_43 rfl (lv_at hl 0 rfl) ?_
    refine r_gf X inX8_days_X8 hw 0 rfl rfl 9 (by decide) (X.2.2.2.2 (.fieldLink RX8 64 "TestHall" "learnerCount" "I") (by decide +kernel)) rfl rfl dX8_days_44 ?_
    obtain ⟨ht_, hf_⟩ := h
    refine lv_icmp_ge (tgt := 93) X.1 X.2.1 dX8_days_47 (by decide) (fun c_ => ?_) (fun c_ => ?_)
    · have h := ht_ c_
      refine lv_aload_n X.1 X.2.1 dX8_days_93 rfl (lv_at hl 0 rfl) ?_
      refine r_gf X inX8_days_X8 hw 0 rfl rfl 0 (by decide) (X.2.2.2.2 (.fieldLink RX8 12 "TestHall" "calendar" "LTestHall$Calendar;") (by decide +kernel)) rfl rfl dX8_days_94 ?_
      refine r_gf X inX8_days_X0 hw 1 rfl rfl 6 (by decide) (X.2.2.2.2 (.fieldLink RX8 80 "TestHall$Calendar" "now" "I") (by decide +kernel)) rfl rfl dX8_days_97 ?_
      exact r_ret X hr hlk hw h dX8_days_100
    · have h := hf_ c_
      refine lv_aload_n X.1 X.2.1 dX8_days_50 rfl (lv_at hl 0 rfl) ?_
      refine r_gf X inX8_days_X8 hw 0 rfl rfl 1 (by decide) (X.2.2.2.2 (.fieldLink RX8 18 "TestHall" "learners" "[LTestHall$Learner;") (by decide +kernel)) rfl rfl dX8_days_51 ?_
      refine lv_iload_n X.1 X.2.1 dX8_days_54 rfl (lv_at hl 1 rfl) ?_
      obtain ⟨hi_, h⟩ := h
      refine r_lrn X hw hi_.1 hi_.2 dX8_days_55 ?_
      refine lv_astore_n (lv' := [(3, .ref (η (49 + (x2.toNatClampNeg)))), (0, .ref (η 0)), (2, .int x2)]) X.1 X.2.1 dX8_days_56 rfl hl (by decide) rfl (fun ls hl => ?_)
      refine lv_aload_n X.1 X.2.1 dX8_days_57 rfl (lv_at hl 0 rfl) ?_
      obtain ⟨hj_, h⟩ := h
      refine r_gf X inX8_days_X1 hw (49 + (x2.toNatClampNeg)) (cw_lrn hj_) rfl 8 (by decide) (X.2.2.2.2 (.fieldLink RX8 140 "TestHall$Learner" "state" "I") (by decide +kernel)) rfl rfl dX8_days_58 ?_
      refine lv_iconst (v := (1 : Int32)) X.1 X.2.1 dX8_days_61 (by decide) ?_
      obtain ⟨ht_, hf_⟩ := h
      refine lv_icmp_ne (tgt := 87) X.1 X.2.1 dX8_days_62 (by decide) (fun c_ => ?_) (fun c_ => ?_)
      · have h := ht_ c_
        exact bX8_days_87 X hr hlk hK42 M x2 _ _ _ h hw (lv_sub hl [1, 2] rfl)
      · have h := hf_ c_
        refine lv_aload_n X.1 X.2.1 dX8_days_65 rfl (lv_at hl 0 rfl) ?_
        obtain ⟨hj_, h⟩ := h
        refine r_gf X inX8_days_X1 hw (49 + (x2.toNatClampNeg)) (cw_lrn hj_) rfl 9 (by decide) (X.2.2.2.2 (.fieldLink RX8 143 "TestHall$Learner" "slot" "I") (by decide +kernel)) rfl rfl dX8_days_66 ?_
        refine r_Si (As := [.int (gA M 59 (x2.toNatClampNeg))]) (rest := []) X cN_ok (kX8_dayOf h) (va_cwS 1 X.2.2.2.2 gX8_days_X8_dayOf rfl rfl rfl (by decide +kernel) ⟨Nat.le_of_ble_eq_true rfl, Nat.le_of_ble_eq_true rfl⟩) hw rfl hl.1 rfl (Nat.le_of_ble_eq_true rfl) dX8_days_69 (fun r_2 M_1 H locs h hw => ?_)
        refine lv_aload_n X.1 X.2.1 dX8_days_72 rfl (lv_at hl 1 rfl) ?_
        refine r_gf X inX8_days_X8 hw 0 rfl rfl 0 (by decide) (X.2.2.2.2 (.fieldLink RX8 12 "TestHall" "calendar" "LTestHall$Calendar;") (by decide +kernel)) rfl rfl dX8_days_73 ?_
        refine r_gf X inX8_days_X0 hw 1 rfl rfl 6 (by decide) (X.2.2.2.2 (.fieldLink RX8 80 "TestHall$Calendar" "now" "I") (by decide +kernel)) rfl rfl dX8_days_76 ?_
        obtain ⟨ht_, hf_⟩ := h
        refine lv_icmp_ge (tgt := 87) X.1 X.2.1 dX8_days_79 (by decide) (fun c_ => ?_) (fun c_ => ?_)
        · have h := ht_ c_
          exact bX8_days_87 X hr hlk hK42 M_1 x2 _ _ _ h hw (lv_sub hl [1, 2] rfl)
        · have h := hf_ c_
          refine lv_aload_n X.1 X.2.1 dX8_days_82 rfl (lv_at hl 1 rfl) ?_
          refine lv_aload_n X.1 X.2.1 dX8_days_83 rfl (lv_at hl 0 rfl) ?_
          refine r_Vv (As := [.ref (η (49 + (x2.toNatClampNeg)))]) (rest := []) X cN_ok (kX8_release h) (cwV 1 X.2.2.2.2 gX8_days_X8_release rfl rfl rfl (by decide +kernel) ⟨Nat.le_of_ble_eq_true rfl, Nat.le_of_ble_eq_true rfl⟩) hw 0 7 rfl rfl rfl hl.1 rfl (Nat.le_of_ble_eq_true rfl) dX8_days_84 (fun M_3 H locs h hw => ?_)
          exact bX8_days_87 X hr hlk hK42 M_3 x2 _ _ _ h hw (lv_sub hl [1, 2] rfl)
def wX8_days (n : Nat) (M : Sg) (a1 : Int32) (Q : Sg → Int32 → Prop) : Prop := (wX8_isWithin n M a1 (1 : Int32) (59 : Int32) (fun M_1 r_2 => ((r_2 = 0 → (Q M_1 (-1 : Int32))) ∧ (¬ r_2 = 0 → (wX8_isDay n M_1 ((gI M_1 1) + a1) (fun M_3 r_4 => ((¬ r_4 = 0 → (∀ (M_5 : Sg), M_5 = sI M_3 1 ((gI M_3 1) + a1) → (∃ g42_ : Nat, vX8_days_42 n Q g42_ M_5 (0 : Int32)))) ∧ (r_4 = 0 → (Q M_3 (-1 : Int32))))))))))
set_option maxHeartbeats 4000000 in
set_option maxRecDepth 100000 in
theorem kX8_days {l : Launch} {D : va_G} {κ : Nat → ClassId} {η : Nat → Nat} {σ : (Nat → Nat) × (Nat → Nat)} {n : Nat} {M : Sg} {a1 : Int32} {Q : Sg → Int32 → Prop} (h : wX8_days n M a1 Q) : Ki (cN σ) D (Ky κ) (cw κ η n) l yX8_days wsX8_days rmX8_days [.ref (η 0), .int a1] M Q := by
  refine ofW_g (Qc := fun A => Qi D (Ky κ) (cw κ η n) A Q) (cc := cX8_days) (maxL := 4) (ret := (some .int)) (by decide) rfl (Nat.le_of_ble_eq_true rfl) ?_
  intro p e s m args below meth c A ls X hr hlk hw hl
  have hl : lv_has ls 4 [(0, .ref (η 0)), (1, .int a1)] := hl
  refine lv_iload_n X.1 X.2.1 dX8_days_0 rfl (lv_at hl 1 rfl) ?_
  refine lv_iconst (v := (1 : Int32)) X.1 X.2.1 dX8_days_1 (by decide) ?_
  refine lv_bipush (v := (59 : Int32)) X.1 X.2.1 dX8_days_2 (by decide) ?_
  refine r_Si (As := [.int a1, .int (1 : Int32), .int (59 : Int32)]) (rest := []) X cN_ok (kX8_isWithin h) (va_cwS 3 X.2.2.2.2 gX8_days_X8_isWithin rfl rfl rfl (by decide +kernel) ⟨Nat.le_of_ble_eq_true rfl, Nat.le_of_ble_eq_true rfl⟩) hw rfl hl.1 rfl (Nat.le_of_ble_eq_true rfl) dX8_days_4 (fun r_2 M_1 H locs h hw => ?_)
  obtain ⟨ht_, hf_⟩ := h
  refine lv_if_eq (tgt := 25) X.1 X.2.1 dX8_days_7 (by decide) (fun c_ => ?_) (fun c_ => ?_)
  · have h := ht_ c_
    refine lv_iconst (v := (-1 : Int32)) X.1 X.2.1 dX8_days_25 (by decide) ?_
    exact r_ret X hr hlk hw h dX8_days_26
  · have h := hf_ c_
    refine lv_aload_n X.1 X.2.1 dX8_days_10 rfl (lv_at hl 0 rfl) ?_
    refine r_gf X inX8_days_X8 hw 0 rfl rfl 0 (by decide) (X.2.2.2.2 (.fieldLink RX8 12 "TestHall" "calendar" "LTestHall$Calendar;") (by decide +kernel)) rfl rfl dX8_days_11 ?_
    refine r_gf X inX8_days_X0 hw 1 rfl rfl 6 (by decide) (X.2.2.2.2 (.fieldLink RX8 80 "TestHall$Calendar" "now" "I") (by decide +kernel)) rfl rfl dX8_days_14 ?_
    refine lv_iload_n X.1 X.2.1 dX8_days_17 rfl (lv_at hl 1 rfl) ?_
    refine lv_iadd X.1 X.2.1 dX8_days_18 ?_
    refine r_Si (As := [.int ((gI M_1 1) + a1)]) (rest := []) X cN_ok (kX8_isDay h) (va_cwS 1 X.2.2.2.2 gX8_days_X8_isDay rfl rfl rfl (by decide +kernel) ⟨Nat.le_of_ble_eq_true rfl, Nat.le_of_ble_eq_true rfl⟩) hw rfl hl.1 rfl (Nat.le_of_ble_eq_true rfl) dX8_days_19 (fun r_4 M_3 H locs h hw => ?_)
    obtain ⟨ht_, hf_⟩ := h
    refine lv_if_ne (tgt := 27) X.1 X.2.1 dX8_days_22 (by decide) (fun c_ => ?_) (fun c_ => ?_)
    · have h := ht_ c_
      refine lv_aload_n X.1 X.2.1 dX8_days_27 rfl (lv_at hl 0 rfl) ?_
      refine r_gf X inX8_days_X8 hw 0 rfl rfl 0 (by decide) (X.2.2.2.2 (.fieldLink RX8 12 "TestHall" "calendar" "LTestHall$Calendar;") (by decide +kernel)) rfl rfl dX8_days_28 ?_
      refine lv_dup X.1 X.2.1 dX8_days_31 rfl ?_
      refine r_gf X inX8_days_X0 hw 1 rfl rfl 6 (by decide) (X.2.2.2.2 (.fieldLink RX8 80 "TestHall$Calendar" "now" "I") (by decide +kernel)) rfl rfl dX8_days_32 ?_
      refine lv_iload_n X.1 X.2.1 dX8_days_35 rfl (lv_at hl 1 rfl) ?_
      refine lv_iadd X.1 X.2.1 dX8_days_36 ?_
      refine r_pf (ty := .int) (w' := cw κ η n (sI M_3 1 ((gI M_3 1) + a1))) X inX8_days_X0 tyX0_ok nmX0 hw 1 rfl rfl 6 (by decide) (X.2.2.2.2 (.fieldLink RX8 80 "TestHall$Calendar" "now" "I") (by decide +kernel)) rfl rfl (by decide +kernel) rfl rfl (Nat.le_of_ble_eq_true rfl) rfl dX8_days_37 (fun H locs hw => ?_)
      obtain ⟨M_5, eM_5⟩ : ∃ y : Sg, y = sI M_3 1 ((gI M_3 1) + a1) := ⟨_, rfl⟩
      rw [← eM_5] at hw
      have h := h M_5 eM_5
      refine lv_iconst (v := (0 : Int32)) X.1 X.2.1 dX8_days_40 (by decide) ?_
      refine lv_istore_n (lv' := [(2, .int (0 : Int32)), (0, .ref (η 0)), (1, .int a1)]) X.1 X.2.1 dX8_days_41 rfl hl (by decide) rfl (fun ls hl => ?_)
      obtain ⟨f_, h⟩ := h
      exact bX8_days_42 X hr hlk f_ M_5 (0 : Int32) _ _ _ h hw (lv_sub hl [1, 0] rfl)
    · have h := hf_ c_
      refine lv_iconst (v := (-1 : Int32)) X.1 X.2.1 dX8_days_25 (by decide) ?_
      exact r_ret X hr hlk hw h dX8_days_26

theorem inX8_held_X0 : ∀ w ∈ wsX00, w ∈ wsX8_held := fun w h => List.mem_cons_of_mem _ (List.mem_append_right _ h)
theorem inX8_held_X1 : ∀ w ∈ wsX10, w ∈ wsX8_held := fun w h => List.mem_cons_of_mem _ (List.mem_append_left _ (List.mem_append_left _ (List.mem_append_right _ h)))
theorem inX8_held_X8 : ∀ w ∈ wsX80, w ∈ wsX8_held := fun w h => List.mem_cons_of_mem _ (List.mem_append_left _ (List.mem_append_right _ h))
abbrev rmX8_held : Room := { frames := 3, cells := 0, slots := 0, locals := 64 }
def wX8_held (n : Nat) (M : Sg) (a1 : Int32) (a2 : Int32) (Q : Sg → Int32 → Prop) : Prop := (wX8_find n M a1 (fun M_1 r_2 => ((r_2 = none → (Q M_1 (0 : Int32))) ∧ (∀ j_3 : Nat, r_2 = some j_3 → (j_3 < n ∧ ((¬ (gA M_1 58 j_3) = (1 : Int32) → (Q M_1 (0 : Int32))) ∧ ((gA M_1 58 j_3) = (1 : Int32) → (j_3 < n ∧ (wX8_dayOf n M_1 (gA M_1 59 j_3) (fun M_4 r_5 => ((r_5 = (gI M_4 1) → (j_3 < n ∧ (wX8_examinerOf n M_4 (gA M_4 59 j_3) (fun M_6 r_7 => (wX0_noteTest n M_6 r_7 a2 (fun M_8 => (wX8_release n M_8 j_3 (fun M_10 => ((a2 = 0 → (j_3 < n ∧ (j_3 < n ∧ (∀ (M_12 : Sg), M_12 = sA M_10 60 j_3 ((gA M_10 60 j_3) + (1 : Int32)) → (Q M_12 (1 : Int32)))))) ∧ (¬ a2 = 0 → (j_3 < n ∧ (∀ (M_13 : Sg), M_13 = sA M_10 58 j_3 (2 : Int32) → (Q M_13 (1 : Int32)))))))))))))) ∧ (¬ r_5 = (gI M_4 1) → (Q M_4 (0 : Int32))))))))))))))
set_option maxHeartbeats 4000000 in
set_option maxRecDepth 100000 in
theorem kX8_held {l : Launch} {D : va_G} {κ : Nat → ClassId} {η : Nat → Nat} {σ : (Nat → Nat) × (Nat → Nat)} {n : Nat} {M : Sg} {a1 : Int32} {a2 : Int32} {Q : Sg → Int32 → Prop} (h : wX8_held n M a1 a2 Q) : Ki (cN σ) D (Ky κ) (cw κ η n) l yX8_held wsX8_held rmX8_held [.ref (η 0), .int a1, .int a2] M Q := by
  refine ofW_g (Qc := fun A => Qi D (Ky κ) (cw κ η n) A Q) (cc := cX8_held) (maxL := 4) (ret := (some .boolean)) (by decide) rfl (Nat.le_of_ble_eq_true rfl) ?_
  intro p e s m args below meth c A ls X hr hlk hw hl
  have hl : lv_has ls 4 [(0, .ref (η 0)), (1, .int a1), (2, .int a2)] := hl
  refine lv_aload_n X.1 X.2.1 dX8_held_0 rfl (lv_at hl 0 rfl) ?_
  refine lv_iload_n X.1 X.2.1 dX8_held_1 rfl (lv_at hl 1 rfl) ?_
  refine r_Vq (As := [.int a1]) (rest := []) X cN_ok (kX8_find h) (cwV 1 X.2.2.2.2 gX8_held_X8_find rfl rfl rfl (by decide +kernel) ⟨Nat.le_of_ble_eq_true rfl, Nat.le_of_ble_eq_true rfl⟩) hw 0 7 rfl rfl rfl hl.1 rfl (Nat.le_of_ble_eq_true rfl) dX8_held_2 (fun M_1 H locs h hw => ?_) (fun j_3 M_1 H locs h hw => ?_)
  · have h := h.1 rfl
    refine lv_astore_nN (lv' := [(3, .null), (0, .ref (η 0)), (1, .int a1), (2, .int a2)]) X.1 X.2.1 dX8_held_5 rfl hl (by decide) rfl (fun ls hl => ?_)
    refine lv_aload_nN X.1 X.2.1 dX8_held_6 rfl (lv_at hl 0 rfl) ?_
    refine lv_ifnullN (tgt := 35) X.1 X.2.1 dX8_held_7 (by decide) ?_
    refine lv_iconst (v := (0 : Int32)) X.1 X.2.1 dX8_held_35 (by decide) ?_
    exact r_zret X hr hlk hw rfl h dX8_held_36
  · have h := h.2 j_3 rfl
    refine lv_astore_n (lv' := [(3, .ref (η (49 + j_3))), (0, .ref (η 0)), (1, .int a1), (2, .int a2)]) X.1 X.2.1 dX8_held_5 rfl hl (by decide) rfl (fun ls hl => ?_)
    refine lv_aload_n X.1 X.2.1 dX8_held_6 rfl (lv_at hl 0 rfl) ?_
    refine lv_ifnull X.1 X.2.1 dX8_held_7 ?_
    refine lv_aload_n X.1 X.2.1 dX8_held_10 rfl (lv_at hl 0 rfl) ?_
    obtain ⟨hj_, h⟩ := h
    refine r_gf X inX8_held_X1 hw (49 + j_3) (cw_lrn hj_) rfl 8 (by decide) (X.2.2.2.2 (.fieldLink RX8 140 "TestHall$Learner" "state" "I") (by decide +kernel)) rfl rfl dX8_held_11 ?_
    refine lv_iconst (v := (1 : Int32)) X.1 X.2.1 dX8_held_14 (by decide) ?_
    obtain ⟨ht_, hf_⟩ := h
    refine lv_icmp_ne (tgt := 35) X.1 X.2.1 dX8_held_15 (by decide) (fun c_ => ?_) (fun c_ => ?_)
    · have h := ht_ c_
      refine lv_iconst (v := (0 : Int32)) X.1 X.2.1 dX8_held_35 (by decide) ?_
      exact r_zret X hr hlk hw rfl h dX8_held_36
    · have h := hf_ c_
      refine lv_aload_n X.1 X.2.1 dX8_held_18 rfl (lv_at hl 0 rfl) ?_
      obtain ⟨hj_, h⟩ := h
      refine r_gf X inX8_held_X1 hw (49 + j_3) (cw_lrn hj_) rfl 9 (by decide) (X.2.2.2.2 (.fieldLink RX8 143 "TestHall$Learner" "slot" "I") (by decide +kernel)) rfl rfl dX8_held_19 ?_
      refine r_Si (As := [.int (gA M_1 59 j_3)]) (rest := []) X cN_ok (kX8_dayOf h) (va_cwS 1 X.2.2.2.2 gX8_held_X8_dayOf rfl rfl rfl (by decide +kernel) ⟨Nat.le_of_ble_eq_true rfl, Nat.le_of_ble_eq_true rfl⟩) hw rfl hl.1 rfl (Nat.le_of_ble_eq_true rfl) dX8_held_22 (fun r_5 M_4 H locs h hw => ?_)
      refine lv_aload_n X.1 X.2.1 dX8_held_25 rfl (lv_at hl 1 rfl) ?_
      refine r_gf X inX8_held_X8 hw 0 rfl rfl 0 (by decide) (X.2.2.2.2 (.fieldLink RX8 12 "TestHall" "calendar" "LTestHall$Calendar;") (by decide +kernel)) rfl rfl dX8_held_26 ?_
      refine r_gf X inX8_held_X0 hw 1 rfl rfl 6 (by decide) (X.2.2.2.2 (.fieldLink RX8 80 "TestHall$Calendar" "now" "I") (by decide +kernel)) rfl rfl dX8_held_29 ?_
      obtain ⟨ht_, hf_⟩ := h
      refine lv_icmp_eq (tgt := 37) X.1 X.2.1 dX8_held_32 (by decide) (fun c_ => ?_) (fun c_ => ?_)
      · have h := ht_ c_
        refine lv_aload_n X.1 X.2.1 dX8_held_37 rfl (lv_at hl 1 rfl) ?_
        refine r_gf X inX8_held_X8 hw 0 rfl rfl 0 (by decide) (X.2.2.2.2 (.fieldLink RX8 12 "TestHall" "calendar" "LTestHall$Calendar;") (by decide +kernel)) rfl rfl dX8_held_38 ?_
        refine lv_aload_n X.1 X.2.1 dX8_held_41 rfl (lv_at hl 0 rfl) ?_
        obtain ⟨hj_, h⟩ := h
        refine r_gf X inX8_held_X1 hw (49 + j_3) (cw_lrn hj_) rfl 9 (by decide) (X.2.2.2.2 (.fieldLink RX8 143 "TestHall$Learner" "slot" "I") (by decide +kernel)) rfl rfl dX8_held_42 ?_
        refine r_Si (As := [.int (gA M_4 59 j_3)]) (rest := [.ref (η 1)]) X cN_ok (kX8_examinerOf h) (va_cwS 1 X.2.2.2.2 gX8_held_X8_examinerOf rfl rfl rfl (by decide +kernel) ⟨Nat.le_of_ble_eq_true rfl, Nat.le_of_ble_eq_true rfl⟩) hw rfl hl.1 rfl (Nat.le_of_ble_eq_true rfl) dX8_held_45 (fun r_7 M_6 H locs h hw => ?_)
        refine lv_iload_n X.1 X.2.1 dX8_held_48 rfl (lv_at hl 3 rfl) ?_
        refine r_Vv (As := [.int r_7, .int a2]) (rest := []) X cN_ok (kX0_noteTest h) (cwV 2 X.2.2.2.2 gX8_held_X0_noteTest rfl rfl rfl (by decide +kernel) ⟨Nat.le_of_ble_eq_true rfl, Nat.le_of_ble_eq_true rfl⟩) hw 1 0 rfl rfl rfl hl.1 rfl (Nat.le_of_ble_eq_true rfl) dX8_held_49 (fun M_8 H locs h hw => ?_)
        refine lv_aload_n X.1 X.2.1 dX8_held_52 rfl (lv_at hl 1 rfl) ?_
        refine lv_aload_n X.1 X.2.1 dX8_held_53 rfl (lv_at hl 0 rfl) ?_
        refine r_Vv (As := [.ref (η (49 + j_3))]) (rest := []) X cN_ok (kX8_release h) (cwV 1 X.2.2.2.2 gX8_held_X8_release rfl rfl rfl (by decide +kernel) ⟨Nat.le_of_ble_eq_true rfl, Nat.le_of_ble_eq_true rfl⟩) hw 0 7 rfl rfl rfl hl.1 rfl (Nat.le_of_ble_eq_true rfl) dX8_held_54 (fun M_10 H locs h hw => ?_)
        refine lv_iload_n X.1 X.2.1 dX8_held_57 rfl (lv_at hl 3 rfl) ?_
        obtain ⟨ht_, hf_⟩ := h
        refine lv_if_eq (tgt := 69) X.1 X.2.1 dX8_held_58 (by decide) (fun c_ => ?_) (fun c_ => ?_)
        · have h := ht_ c_
          refine lv_aload_n X.1 X.2.1 dX8_held_69 rfl (lv_at hl 0 rfl) ?_
          refine lv_dup X.1 X.2.1 dX8_held_70 rfl ?_
          obtain ⟨hj_, h⟩ := h
          refine r_gf X inX8_held_X1 hw (49 + j_3) (cw_lrn hj_) rfl 10 (by decide) (X.2.2.2.2 (.fieldLink RX8 183 "TestHall$Learner" "tries" "I") (by decide +kernel)) rfl rfl dX8_held_71 ?_
          refine lv_iconst (v := (1 : Int32)) X.1 X.2.1 dX8_held_74 (by decide) ?_
          refine lv_iadd X.1 X.2.1 dX8_held_75 ?_
          obtain ⟨hj_, h⟩ := h
          refine r_pf (ty := .int) (w' := cw κ η n (sA M_10 60 j_3 ((gA M_10 60 j_3) + (1 : Int32)))) X inX8_held_X1 tyX1_ok nmX1 hw (49 + j_3) (cw_lrn hj_) rfl 10 (by decide) (X.2.2.2.2 (.fieldLink RX8 183 "TestHall$Learner" "tries" "I") (by decide +kernel)) rfl rfl (by decide +kernel) rfl rfl (Nat.le_of_ble_eq_true rfl) (cw_lset10 hj_) dX8_held_76 (fun H locs hw => ?_)
          obtain ⟨M_12, eM_12⟩ : ∃ y : Sg, y = sA M_10 60 j_3 ((gA M_10 60 j_3) + (1 : Int32)) := ⟨_, rfl⟩
          rw [← eM_12] at hw
          have h := h M_12 eM_12
          refine lv_iconst (v := (1 : Int32)) X.1 X.2.1 dX8_held_79 (by decide) ?_
          exact r_zret X hr hlk hw rfl h dX8_held_80
        · have h := hf_ c_
          refine lv_aload_n X.1 X.2.1 dX8_held_61 rfl (lv_at hl 0 rfl) ?_
          refine lv_iconst (v := (2 : Int32)) X.1 X.2.1 dX8_held_62 (by decide) ?_
          obtain ⟨hj_, h⟩ := h
          refine r_pf (ty := .int) (w' := cw κ η n (sA M_10 58 j_3 (2 : Int32))) X inX8_held_X1 tyX1_ok nmX1 hw (49 + j_3) (cw_lrn hj_) rfl 8 (by decide) (X.2.2.2.2 (.fieldLink RX8 140 "TestHall$Learner" "state" "I") (by decide +kernel)) rfl rfl (by decide +kernel) rfl rfl (Nat.le_of_ble_eq_true rfl) (cw_lset8 hj_) dX8_held_63 (fun H locs hw => ?_)
          obtain ⟨M_13, eM_13⟩ : ∃ y : Sg, y = sA M_10 58 j_3 (2 : Int32) := ⟨_, rfl⟩
          rw [← eM_13] at hw
          have h := h M_13 eM_13
          refine lv_goto (tgt := 79) X.1 X.2.1 dX8_held_66 (by decide) ?_
          refine lv_iconst (v := (1 : Int32)) X.1 X.2.1 dX8_held_79 (by decide) ?_
          exact r_zret X hr hlk hw rfl h dX8_held_80
      · have h := hf_ c_
        refine lv_iconst (v := (0 : Int32)) X.1 X.2.1 dX8_held_35 (by decide) ?_
        exact r_zret X hr hlk hw rfl h dX8_held_36

theorem inX8_placeAmongWaiting_X1 : ∀ w ∈ wsX10, w ∈ wsX8_placeAmongWaiting := fun w h => List.mem_cons_of_mem _ (List.mem_append_left _ (List.mem_append_left _ (List.mem_append_left _ (List.mem_append_right _ h))))
theorem inX8_placeAmongWaiting_X8 : ∀ w ∈ wsX80, w ∈ wsX8_placeAmongWaiting := fun w h => List.mem_cons_of_mem _ (List.mem_append_left _ (List.mem_append_left _ (List.mem_append_left _ (List.mem_append_left _ (List.mem_append_right _ h)))))
abbrev rmX8_placeAmongWaiting : Room := { frames := 5, cells := 0, slots := 0, locals := 113 }
def wX8_placeAmongWaiting (n : Nat) (M : Sg) (a1 : Nat) (Q : Sg → Int32 → Prop) : Prop := (wX8_lineUpWaiting n M (fun M_1 => (a1 < n ∧ (wX2_placeOf n M_1 (gA M_1 50 a1) (fun M_3 r_4 => (Q M_3 r_4))))))
set_option maxHeartbeats 4000000 in
set_option maxRecDepth 100000 in
theorem kX8_placeAmongWaiting {l : Launch} {D : va_G} {κ : Nat → ClassId} {η : Nat → Nat} {σ : (Nat → Nat) × (Nat → Nat)} {n : Nat} {M : Sg} {a1 : Nat} {Q : Sg → Int32 → Prop} (h : wX8_placeAmongWaiting n M a1 Q) : Ki (cN σ) D (Ky κ) (cw κ η n) l yX8_placeAmongWaiting wsX8_placeAmongWaiting rmX8_placeAmongWaiting [.ref (η 0), .ref (η (49 + a1))] M Q := by
  refine ofW_g (Qc := fun A => Qi D (Ky κ) (cw κ η n) A Q) (cc := cX8_placeAmongWaiting) (maxL := 2) (ret := (some .int)) (by decide) rfl (Nat.le_of_ble_eq_true rfl) ?_
  intro p e s m args below meth c A ls X hr hlk hw hl
  have hl : lv_has ls 2 [(0, .ref (η 0)), (1, .ref (η (49 + a1)))] := hl
  refine lv_aload_n X.1 X.2.1 dX8_placeAmongWaiting_0 rfl (lv_at hl 0 rfl) ?_
  refine r_Vv (As := []) (rest := []) X cN_ok (kX8_lineUpWaiting h) (cwV 0 X.2.2.2.2 gX8_placeAmongWaiting_X8_lineUpWaiting rfl rfl rfl (by decide +kernel) ⟨Nat.le_of_ble_eq_true rfl, Nat.le_of_ble_eq_true rfl⟩) hw 0 7 rfl rfl rfl hl.1 rfl (Nat.le_of_ble_eq_true rfl) dX8_placeAmongWaiting_1 (fun M_1 H locs h hw => ?_)
  refine lv_aload_n X.1 X.2.1 dX8_placeAmongWaiting_4 rfl (lv_at hl 0 rfl) ?_
  refine r_gf X inX8_placeAmongWaiting_X8 hw 0 rfl rfl 2 (by decide) (X.2.2.2.2 (.fieldLink RX8 25 "TestHall" "line" "LTestHall$Line;") (by decide +kernel)) rfl rfl dX8_placeAmongWaiting_5 ?_
  refine lv_aload_n X.1 X.2.1 dX8_placeAmongWaiting_8 rfl (lv_at hl 1 rfl) ?_
  obtain ⟨hj_, h⟩ := h
  refine r_gf X inX8_placeAmongWaiting_X1 hw (49 + a1) (cw_lrn hj_) rfl 0 (by decide) (X.2.2.2.2 (.fieldLink RX8 116 "TestHall$Learner" "number" "I") (by decide +kernel)) rfl rfl dX8_placeAmongWaiting_9 ?_
  refine r_Vi (As := [.int (gA M_1 50 a1)]) (rest := []) X cN_ok (kX2_placeOf h) (cwV 1 X.2.2.2.2 gX8_placeAmongWaiting_X2_placeOf rfl rfl rfl (by decide +kernel) ⟨Nat.le_of_ble_eq_true rfl, Nat.le_of_ble_eq_true rfl⟩) hw 2 2 rfl rfl rfl hl.1 rfl (Nat.le_of_ble_eq_true rfl) dX8_placeAmongWaiting_12 (fun r_4 M_3 H locs h hw => ?_)
  exact r_ret X hr hlk hw h dX8_placeAmongWaiting_15

theorem inX8_at_X8 : ∀ w ∈ wsX80, w ∈ wsX8_at := fun w h => List.mem_cons_of_mem _ (List.mem_append_left _ (List.mem_append_right _ h))
abbrev rmX8_at : Room := { frames := 2, cells := 0, slots := 0, locals := 47 }
def wX8_at (n : Nat) (M : Sg) (a1 : Int32) (a2 : Int32) (a3 : Int32) (Q : Sg → Int32 → Prop) : Prop := (wX8_isDay n M a1 (fun M_1 r_2 => ((r_2 = 0 → (Q M_1 (-3 : Int32))) ∧ (¬ r_2 = 0 → (wX8_isWithin n M_1 a2 (0 : Int32) (5 : Int32) (fun M_3 r_4 => ((r_4 = 0 → (Q M_3 (-3 : Int32))) ∧ (¬ r_4 = 0 → (wX0_isExaminer n M_3 a3 (fun M_5 r_6 => ((¬ r_6 = 0 → (wX0_hasHour n M_5 a1 a2 a3 (fun M_7 r_8 => ((¬ r_8 = 0 → (wX8_slotOf n M_7 a1 a2 a3 (fun M_9 r_10 => (wX0_bookedIn n M_9 r_10 (fun M_11 r_12 => (Q M_11 r_12)))))) ∧ (r_8 = 0 → (Q M_7 (-2 : Int32))))))) ∧ (r_6 = 0 → (Q M_5 (-3 : Int32))))))))))))))
set_option maxHeartbeats 4000000 in
set_option maxRecDepth 100000 in
theorem kX8_at {l : Launch} {D : va_G} {κ : Nat → ClassId} {η : Nat → Nat} {σ : (Nat → Nat) × (Nat → Nat)} {n : Nat} {M : Sg} {a1 : Int32} {a2 : Int32} {a3 : Int32} {Q : Sg → Int32 → Prop} (h : wX8_at n M a1 a2 a3 Q) : Ki (cN σ) D (Ky κ) (cw κ η n) l yX8_at wsX8_at rmX8_at [.ref (η 0), .int a1, .int a2, .int a3] M Q := by
  refine ofW_g (Qc := fun A => Qi D (Ky κ) (cw κ η n) A Q) (cc := cX8_at) (maxL := 4) (ret := (some .int)) (by decide) rfl (Nat.le_of_ble_eq_true rfl) ?_
  intro p e s m args below meth c A ls X hr hlk hw hl
  have hl : lv_has ls 4 [(0, .ref (η 0)), (1, .int a1), (2, .int a2), (3, .int a3)] := hl
  refine lv_iload_n X.1 X.2.1 dX8_at_0 rfl (lv_at hl 1 rfl) ?_
  refine r_Si (As := [.int a1]) (rest := []) X cN_ok (kX8_isDay h) (va_cwS 1 X.2.2.2.2 gX8_at_X8_isDay rfl rfl rfl (by decide +kernel) ⟨Nat.le_of_ble_eq_true rfl, Nat.le_of_ble_eq_true rfl⟩) hw rfl hl.1 rfl (Nat.le_of_ble_eq_true rfl) dX8_at_1 (fun r_2 M_1 H locs h hw => ?_)
  obtain ⟨ht_, hf_⟩ := h
  refine lv_if_eq (tgt := 27) X.1 X.2.1 dX8_at_4 (by decide) (fun c_ => ?_) (fun c_ => ?_)
  · have h := ht_ c_
    refine lv_bipush (v := (-3 : Int32)) X.1 X.2.1 dX8_at_27 (by decide) ?_
    exact r_ret X hr hlk hw h dX8_at_29
  · have h := hf_ c_
    refine lv_iload_n X.1 X.2.1 dX8_at_7 rfl (lv_at hl 2 rfl) ?_
    refine lv_iconst (v := (0 : Int32)) X.1 X.2.1 dX8_at_8 (by decide) ?_
    refine lv_iconst (v := (5 : Int32)) X.1 X.2.1 dX8_at_9 (by decide) ?_
    refine r_Si (As := [.int a2, .int (0 : Int32), .int (5 : Int32)]) (rest := []) X cN_ok (kX8_isWithin h) (va_cwS 3 X.2.2.2.2 gX8_at_X8_isWithin rfl rfl rfl (by decide +kernel) ⟨Nat.le_of_ble_eq_true rfl, Nat.le_of_ble_eq_true rfl⟩) hw rfl hl.1 rfl (Nat.le_of_ble_eq_true rfl) dX8_at_10 (fun r_4 M_3 H locs h hw => ?_)
    obtain ⟨ht_, hf_⟩ := h
    refine lv_if_eq (tgt := 27) X.1 X.2.1 dX8_at_13 (by decide) (fun c_ => ?_) (fun c_ => ?_)
    · have h := ht_ c_
      refine lv_bipush (v := (-3 : Int32)) X.1 X.2.1 dX8_at_27 (by decide) ?_
      exact r_ret X hr hlk hw h dX8_at_29
    · have h := hf_ c_
      refine lv_aload_n X.1 X.2.1 dX8_at_16 rfl (lv_at hl 0 rfl) ?_
      refine r_gf X inX8_at_X8 hw 0 rfl rfl 0 (by decide) (X.2.2.2.2 (.fieldLink RX8 12 "TestHall" "calendar" "LTestHall$Calendar;") (by decide +kernel)) rfl rfl dX8_at_17 ?_
      refine lv_iload_n X.1 X.2.1 dX8_at_20 rfl (lv_at hl 3 rfl) ?_
      refine r_Vi (As := [.int a3]) (rest := []) X cN_ok (kX0_isExaminer h) (cwV 1 X.2.2.2.2 gX8_at_X0_isExaminer rfl rfl rfl (by decide +kernel) ⟨Nat.le_of_ble_eq_true rfl, Nat.le_of_ble_eq_true rfl⟩) hw 1 0 rfl rfl rfl hl.1 rfl (Nat.le_of_ble_eq_true rfl) dX8_at_21 (fun r_6 M_5 H locs h hw => ?_)
      obtain ⟨ht_, hf_⟩ := h
      refine lv_if_ne (tgt := 30) X.1 X.2.1 dX8_at_24 (by decide) (fun c_ => ?_) (fun c_ => ?_)
      · have h := ht_ c_
        refine lv_aload_n X.1 X.2.1 dX8_at_30 rfl (lv_at hl 0 rfl) ?_
        refine r_gf X inX8_at_X8 hw 0 rfl rfl 0 (by decide) (X.2.2.2.2 (.fieldLink RX8 12 "TestHall" "calendar" "LTestHall$Calendar;") (by decide +kernel)) rfl rfl dX8_at_31 ?_
        refine lv_iload_n X.1 X.2.1 dX8_at_34 rfl (lv_at hl 1 rfl) ?_
        refine lv_iload_n X.1 X.2.1 dX8_at_35 rfl (lv_at hl 2 rfl) ?_
        refine lv_iload_n X.1 X.2.1 dX8_at_36 rfl (lv_at hl 3 rfl) ?_
        refine r_Vi (As := [.int a1, .int a2, .int a3]) (rest := []) X cN_ok (kX0_hasHour h) (cwV 3 X.2.2.2.2 gX8_at_X0_hasHour rfl rfl rfl (by decide +kernel) ⟨Nat.le_of_ble_eq_true rfl, Nat.le_of_ble_eq_true rfl⟩) hw 1 0 rfl rfl rfl hl.1 rfl (Nat.le_of_ble_eq_true rfl) dX8_at_37 (fun r_8 M_7 H locs h hw => ?_)
        obtain ⟨ht_, hf_⟩ := h
        refine lv_if_ne (tgt := 46) X.1 X.2.1 dX8_at_40 (by decide) (fun c_ => ?_) (fun c_ => ?_)
        · have h := ht_ c_
          refine lv_aload_n X.1 X.2.1 dX8_at_46 rfl (lv_at hl 0 rfl) ?_
          refine r_gf X inX8_at_X8 hw 0 rfl rfl 0 (by decide) (X.2.2.2.2 (.fieldLink RX8 12 "TestHall" "calendar" "LTestHall$Calendar;") (by decide +kernel)) rfl rfl dX8_at_47 ?_
          refine lv_iload_n X.1 X.2.1 dX8_at_50 rfl (lv_at hl 1 rfl) ?_
          refine lv_iload_n X.1 X.2.1 dX8_at_51 rfl (lv_at hl 2 rfl) ?_
          refine lv_iload_n X.1 X.2.1 dX8_at_52 rfl (lv_at hl 3 rfl) ?_
          refine r_Si (As := [.int a1, .int a2, .int a3]) (rest := [.ref (η 1)]) X cN_ok (kX8_slotOf h) (va_cwS 3 X.2.2.2.2 gX8_at_X8_slotOf rfl rfl rfl (by decide +kernel) ⟨Nat.le_of_ble_eq_true rfl, Nat.le_of_ble_eq_true rfl⟩) hw rfl hl.1 rfl (Nat.le_of_ble_eq_true rfl) dX8_at_53 (fun r_10 M_9 H locs h hw => ?_)
          refine r_Vi (As := [.int r_10]) (rest := []) X cN_ok (kX0_bookedIn h) (cwV 1 X.2.2.2.2 gX8_at_X0_bookedIn rfl rfl rfl (by decide +kernel) ⟨Nat.le_of_ble_eq_true rfl, Nat.le_of_ble_eq_true rfl⟩) hw 1 0 rfl rfl rfl hl.1 rfl (Nat.le_of_ble_eq_true rfl) dX8_at_56 (fun r_12 M_11 H locs h hw => ?_)
          exact r_ret X hr hlk hw h dX8_at_59
        · have h := hf_ c_
          refine lv_bipush (v := (-2 : Int32)) X.1 X.2.1 dX8_at_43 (by decide) ?_
          exact r_ret X hr hlk hw h dX8_at_45
      · have h := hf_ c_
        refine lv_bipush (v := (-3 : Int32)) X.1 X.2.1 dX8_at_27 (by decide) ?_
        exact r_ret X hr hlk hw h dX8_at_29

theorem inX8_street_X8 : ∀ w ∈ wsX80, w ∈ wsX8_street := fun w h => List.mem_cons_of_mem _ (List.mem_append_left _ (List.mem_append_right _ h))
abbrev rmX8_street : Room := { frames := 4, cells := 0, slots := 0, locals := 89 }
def wX8_street (n : Nat) (M : Sg) (a1 : Int32) (a2 : Int32) (a3 : Int32) (a4 : Int32) (Q : Sg → Int32 → Prop) : Prop := (wX3_add n M a1 a2 a3 a4 (fun M_1 r_2 => (Q M_1 r_2)))
set_option maxHeartbeats 4000000 in
set_option maxRecDepth 100000 in
theorem kX8_street {l : Launch} {D : va_G} {κ : Nat → ClassId} {η : Nat → Nat} {σ : (Nat → Nat) × (Nat → Nat)} {n : Nat} {M : Sg} {a1 : Int32} {a2 : Int32} {a3 : Int32} {a4 : Int32} {Q : Sg → Int32 → Prop} (h : wX8_street n M a1 a2 a3 a4 Q) : Ki (cN σ) D (Ky κ) (cw κ η n) l yX8_street wsX8_street rmX8_street [.ref (η 0), .int a1, .int a2, .int a3, .int a4] M Q := by
  refine ofW_g (Qc := fun A => Qi D (Ky κ) (cw κ η n) A Q) (cc := cX8_street) (maxL := 5) (ret := (some .int)) (by decide) rfl (Nat.le_of_ble_eq_true rfl) ?_
  intro p e s m args below meth c A ls X hr hlk hw hl
  have hl : lv_has ls 5 [(0, .ref (η 0)), (1, .int a1), (2, .int a2), (3, .int a3), (4, .int a4)] := hl
  refine lv_aload_n X.1 X.2.1 dX8_street_0 rfl (lv_at hl 0 rfl) ?_
  refine r_gf X inX8_street_X8 hw 0 rfl rfl 6 (by decide) (X.2.2.2.2 (.fieldLink RX8 52 "TestHall" "streets" "LTestHall$Streets;") (by decide +kernel)) rfl rfl dX8_street_1 ?_
  refine lv_iload_n X.1 X.2.1 dX8_street_4 rfl (lv_at hl 1 rfl) ?_
  refine lv_iload_n X.1 X.2.1 dX8_street_5 rfl (lv_at hl 2 rfl) ?_
  refine lv_iload_n X.1 X.2.1 dX8_street_6 rfl (lv_at hl 3 rfl) ?_
  refine lv_iload X.1 X.2.1 dX8_street_7 (lv_at hl 4 rfl) ?_
  refine r_Vi (As := [.int a1, .int a2, .int a3, .int a4]) (rest := []) X cN_ok (kX3_add h) (cwV 4 X.2.2.2.2 gX8_street_X3_add rfl rfl rfl (by decide +kernel) ⟨Nat.le_of_ble_eq_true rfl, Nat.le_of_ble_eq_true rfl⟩) hw 5 3 rfl rfl rfl hl.1 rfl (Nat.le_of_ble_eq_true rfl) dX8_street_9 (fun r_2 M_1 H locs h hw => ?_)
  exact r_ret X hr hlk hw h dX8_street_12

theorem inX8_close_X8 : ∀ w ∈ wsX80, w ∈ wsX8_close := fun w h => List.mem_cons_of_mem _ (List.mem_append_left _ (List.mem_append_right _ h))
abbrev rmX8_close : Room := { frames := 2, cells := 0, slots := 0, locals := 44 }
def wX8_close (n : Nat) (M : Sg) (a1 : Int32) (a2 : Int32) (Q : Sg → Int32 → Prop) : Prop := (wX3_setClosed n M a1 a2 (fun M_1 r_2 => (narrow .boolean (.int r_2) = .int r_2 ∧ Q M_1 r_2)))
set_option maxHeartbeats 4000000 in
set_option maxRecDepth 100000 in
theorem kX8_close {l : Launch} {D : va_G} {κ : Nat → ClassId} {η : Nat → Nat} {σ : (Nat → Nat) × (Nat → Nat)} {n : Nat} {M : Sg} {a1 : Int32} {a2 : Int32} {Q : Sg → Int32 → Prop} (h : wX8_close n M a1 a2 Q) : Ki (cN σ) D (Ky κ) (cw κ η n) l yX8_close wsX8_close rmX8_close [.ref (η 0), .int a1, .int a2] M Q := by
  refine ofW_g (Qc := fun A => Qi D (Ky κ) (cw κ η n) A Q) (cc := cX8_close) (maxL := 3) (ret := (some .boolean)) (by decide) rfl (Nat.le_of_ble_eq_true rfl) ?_
  intro p e s m args below meth c A ls X hr hlk hw hl
  have hl : lv_has ls 3 [(0, .ref (η 0)), (1, .int a1), (2, .int a2)] := hl
  refine lv_aload_n X.1 X.2.1 dX8_close_0 rfl (lv_at hl 0 rfl) ?_
  refine r_gf X inX8_close_X8 hw 0 rfl rfl 6 (by decide) (X.2.2.2.2 (.fieldLink RX8 52 "TestHall" "streets" "LTestHall$Streets;") (by decide +kernel)) rfl rfl dX8_close_1 ?_
  refine lv_iload_n X.1 X.2.1 dX8_close_4 rfl (lv_at hl 1 rfl) ?_
  refine lv_iload_n X.1 X.2.1 dX8_close_5 rfl (lv_at hl 2 rfl) ?_
  refine r_Vi (As := [.int a1, .int a2]) (rest := []) X cN_ok (kX3_setClosed h) (cwV 2 X.2.2.2.2 gX8_close_X3_setClosed rfl rfl rfl (by decide +kernel) ⟨Nat.le_of_ble_eq_true rfl, Nat.le_of_ble_eq_true rfl⟩) hw 5 3 rfl rfl rfl hl.1 rfl (Nat.le_of_ble_eq_true rfl) dX8_close_6 (fun r_2 M_1 H locs h hw => ?_)
  obtain ⟨hn_, h⟩ := h
  exact r_zret X hr hlk hw hn_ h dX8_close_9

theorem inX8_routes_X8 : ∀ w ∈ wsX80, w ∈ wsX8_routes := fun w h => List.mem_cons_of_mem _ (List.mem_append_left _ (List.mem_append_right _ h))
abbrev rmX8_routes : Room := { frames := 17, cells := 0, slots := 0, locals := 576 }
def wX8_routes (n : Nat) (M : Sg) (a1 : Int32) (a2 : Int32) (a3 : Int32) (Q : Sg → Int32 → Prop) : Prop := (wX3_countRoutes n M a1 a2 a3 (fun M_1 r_2 => (Q M_1 r_2)))
set_option maxHeartbeats 4000000 in
set_option maxRecDepth 100000 in
theorem kX8_routes {l : Launch} {D : va_G} {κ : Nat → ClassId} {η : Nat → Nat} {σ : (Nat → Nat) × (Nat → Nat)} {n : Nat} {M : Sg} {a1 : Int32} {a2 : Int32} {a3 : Int32} {Q : Sg → Int32 → Prop} (h : wX8_routes n M a1 a2 a3 Q) : Ki (cN σ) D (Ky κ) (cw κ η n) l yX8_routes wsX8_routes rmX8_routes [.ref (η 0), .int a1, .int a2, .int a3] M Q := by
  refine ofW_g (Qc := fun A => Qi D (Ky κ) (cw κ η n) A Q) (cc := cX8_routes) (maxL := 4) (ret := (some .int)) (by decide) rfl (Nat.le_of_ble_eq_true rfl) ?_
  intro p e s m args below meth c A ls X hr hlk hw hl
  have hl : lv_has ls 4 [(0, .ref (η 0)), (1, .int a1), (2, .int a2), (3, .int a3)] := hl
  refine lv_aload_n X.1 X.2.1 dX8_routes_0 rfl (lv_at hl 0 rfl) ?_
  refine r_gf X inX8_routes_X8 hw 0 rfl rfl 6 (by decide) (X.2.2.2.2 (.fieldLink RX8 52 "TestHall" "streets" "LTestHall$Streets;") (by decide +kernel)) rfl rfl dX8_routes_1 ?_
  refine lv_iload_n X.1 X.2.1 dX8_routes_4 rfl (lv_at hl 1 rfl) ?_
  refine lv_iload_n X.1 X.2.1 dX8_routes_5 rfl (lv_at hl 2 rfl) ?_
  refine lv_iload_n X.1 X.2.1 dX8_routes_6 rfl (lv_at hl 3 rfl) ?_
  refine r_Vi (As := [.int a1, .int a2, .int a3]) (rest := []) X cN_ok (kX3_countRoutes h) (cwV 3 X.2.2.2.2 gX8_routes_X3_countRoutes rfl rfl rfl (by decide +kernel) ⟨Nat.le_of_ble_eq_true rfl, Nat.le_of_ble_eq_true rfl⟩) hw 5 3 rfl rfl rfl hl.1 rfl (Nat.le_of_ble_eq_true rfl) dX8_routes_7 (fun r_2 M_1 H locs h hw => ?_)
  exact r_ret X hr hlk hw h dX8_routes_10

theorem inX8_route_X8 : ∀ w ∈ wsX80, w ∈ wsX8_route := fun w h => List.mem_cons_of_mem _ (List.mem_append_left _ (List.mem_append_right _ h))
abbrev rmX8_route : Room := { frames := 18, cells := 0, slots := 0, locals := 601 }
def wX8_route (n : Nat) (M : Sg) (a1 : Int32) (a2 : Int32) (a3 : Int32) (a4 : Int32) (Q : Sg → Int32 → Prop) : Prop := (wX3_draw n M a1 a2 a3 a4 (fun M_1 r_2 => (Q M_1 r_2)))
set_option maxHeartbeats 4000000 in
set_option maxRecDepth 100000 in
theorem kX8_route {l : Launch} {D : va_G} {κ : Nat → ClassId} {η : Nat → Nat} {σ : (Nat → Nat) × (Nat → Nat)} {n : Nat} {M : Sg} {a1 : Int32} {a2 : Int32} {a3 : Int32} {a4 : Int32} {Q : Sg → Int32 → Prop} (h : wX8_route n M a1 a2 a3 a4 Q) : Ki (cN σ) D (Ky κ) (cw κ η n) l yX8_route wsX8_route rmX8_route [.ref (η 0), .int a1, .int a2, .int a3, .int a4] M Q := by
  refine ofW_g (Qc := fun A => Qi D (Ky κ) (cw κ η n) A Q) (cc := cX8_route) (maxL := 5) (ret := (some .int)) (by decide) rfl (Nat.le_of_ble_eq_true rfl) ?_
  intro p e s m args below meth c A ls X hr hlk hw hl
  have hl : lv_has ls 5 [(0, .ref (η 0)), (1, .int a1), (2, .int a2), (3, .int a3), (4, .int a4)] := hl
  refine lv_aload_n X.1 X.2.1 dX8_route_0 rfl (lv_at hl 0 rfl) ?_
  refine r_gf X inX8_route_X8 hw 0 rfl rfl 6 (by decide) (X.2.2.2.2 (.fieldLink RX8 52 "TestHall" "streets" "LTestHall$Streets;") (by decide +kernel)) rfl rfl dX8_route_1 ?_
  refine lv_iload_n X.1 X.2.1 dX8_route_4 rfl (lv_at hl 1 rfl) ?_
  refine lv_iload_n X.1 X.2.1 dX8_route_5 rfl (lv_at hl 2 rfl) ?_
  refine lv_iload_n X.1 X.2.1 dX8_route_6 rfl (lv_at hl 3 rfl) ?_
  refine lv_iload X.1 X.2.1 dX8_route_7 (lv_at hl 4 rfl) ?_
  refine r_Vi (As := [.int a1, .int a2, .int a3, .int a4]) (rest := []) X cN_ok (kX3_draw h) (cwV 4 X.2.2.2.2 gX8_route_X3_draw rfl rfl rfl (by decide +kernel) ⟨Nat.le_of_ble_eq_true rfl, Nat.le_of_ble_eq_true rfl⟩) hw 5 3 rfl rfl rfl hl.1 rfl (Nat.le_of_ble_eq_true rfl) dX8_route_9 (fun r_2 M_1 H locs h hw => ?_)
  exact r_ret X hr hlk hw h dX8_route_12

theorem inX8_part_X8 : ∀ w ∈ wsX80, w ∈ wsX8_part := fun w h => List.mem_cons_of_mem _ (List.mem_append_left _ (List.mem_append_right _ h))
abbrev rmX8_part : Room := { frames := 2, cells := 0, slots := 0, locals := 43 }
def wX8_part (n : Nat) (M : Sg) (a1 : Int32) (Q : Sg → Int32 → Prop) : Prop := (wX3_drawnStreet n M a1 (fun M_1 r_2 => (Q M_1 r_2)))
set_option maxHeartbeats 4000000 in
set_option maxRecDepth 100000 in
theorem kX8_part {l : Launch} {D : va_G} {κ : Nat → ClassId} {η : Nat → Nat} {σ : (Nat → Nat) × (Nat → Nat)} {n : Nat} {M : Sg} {a1 : Int32} {Q : Sg → Int32 → Prop} (h : wX8_part n M a1 Q) : Ki (cN σ) D (Ky κ) (cw κ η n) l yX8_part wsX8_part rmX8_part [.ref (η 0), .int a1] M Q := by
  refine ofW_g (Qc := fun A => Qi D (Ky κ) (cw κ η n) A Q) (cc := cX8_part) (maxL := 2) (ret := (some .int)) (by decide) rfl (Nat.le_of_ble_eq_true rfl) ?_
  intro p e s m args below meth c A ls X hr hlk hw hl
  have hl : lv_has ls 2 [(0, .ref (η 0)), (1, .int a1)] := hl
  refine lv_aload_n X.1 X.2.1 dX8_part_0 rfl (lv_at hl 0 rfl) ?_
  refine r_gf X inX8_part_X8 hw 0 rfl rfl 6 (by decide) (X.2.2.2.2 (.fieldLink RX8 52 "TestHall" "streets" "LTestHall$Streets;") (by decide +kernel)) rfl rfl dX8_part_1 ?_
  refine lv_iload_n X.1 X.2.1 dX8_part_4 rfl (lv_at hl 1 rfl) ?_
  refine r_Vi (As := [.int a1]) (rest := []) X cN_ok (kX3_drawnStreet h) (cwV 1 X.2.2.2.2 gX8_part_X3_drawnStreet rfl rfl rfl (by decide +kernel) ⟨Nat.le_of_ble_eq_true rfl, Nat.le_of_ble_eq_true rfl⟩) hw 5 3 rfl rfl rfl hl.1 rfl (Nat.le_of_ble_eq_true rfl) dX8_part_5 (fun r_2 M_1 H locs h hw => ?_)
  exact r_ret X hr hlk hw h dX8_part_8

theorem inX8_differs_X8 : ∀ w ∈ wsX80, w ∈ wsX8_differs := fun w h => List.mem_cons_of_mem _ (List.mem_append_left _ (List.mem_append_right _ h))
abbrev rmX8_differs : Room := { frames := 3, cells := 0, slots := 0, locals := 76 }
def wX8_differs (n : Nat) (M : Sg) (a1 : Int32) (a2 : Int32) (Q : Sg → Int32 → Prop) : Prop := (wX0_isExaminer n M a1 (fun M_1 r_2 => ((r_2 = 0 → (Q M_1 (-2 : Int32))) ∧ (¬ r_2 = 0 → (wX8_isWithin n M_1 a2 (0 : Int32) (100 : Int32) (fun M_3 r_4 => ((¬ r_4 = 0 → (wX0_difference n M_3 a1 a2 (fun M_5 r_6 => (Q M_5 r_6)))) ∧ (r_4 = 0 → (Q M_3 (-2 : Int32))))))))))
set_option maxHeartbeats 4000000 in
set_option maxRecDepth 100000 in
theorem kX8_differs {l : Launch} {D : va_G} {κ : Nat → ClassId} {η : Nat → Nat} {σ : (Nat → Nat) × (Nat → Nat)} {n : Nat} {M : Sg} {a1 : Int32} {a2 : Int32} {Q : Sg → Int32 → Prop} (h : wX8_differs n M a1 a2 Q) : Ki (cN σ) D (Ky κ) (cw κ η n) l yX8_differs wsX8_differs rmX8_differs [.ref (η 0), .int a1, .int a2] M Q := by
  refine ofW_g (Qc := fun A => Qi D (Ky κ) (cw κ η n) A Q) (cc := cX8_differs) (maxL := 3) (ret := (some .int)) (by decide) rfl (Nat.le_of_ble_eq_true rfl) ?_
  intro p e s m args below meth c A ls X hr hlk hw hl
  have hl : lv_has ls 3 [(0, .ref (η 0)), (1, .int a1), (2, .int a2)] := hl
  refine lv_aload_n X.1 X.2.1 dX8_differs_0 rfl (lv_at hl 0 rfl) ?_
  refine r_gf X inX8_differs_X8 hw 0 rfl rfl 0 (by decide) (X.2.2.2.2 (.fieldLink RX8 12 "TestHall" "calendar" "LTestHall$Calendar;") (by decide +kernel)) rfl rfl dX8_differs_1 ?_
  refine lv_iload_n X.1 X.2.1 dX8_differs_4 rfl (lv_at hl 1 rfl) ?_
  refine r_Vi (As := [.int a1]) (rest := []) X cN_ok (kX0_isExaminer h) (cwV 1 X.2.2.2.2 gX8_differs_X0_isExaminer rfl rfl rfl (by decide +kernel) ⟨Nat.le_of_ble_eq_true rfl, Nat.le_of_ble_eq_true rfl⟩) hw 1 0 rfl rfl rfl hl.1 rfl (Nat.le_of_ble_eq_true rfl) dX8_differs_5 (fun r_2 M_1 H locs h hw => ?_)
  obtain ⟨ht_, hf_⟩ := h
  refine lv_if_eq (tgt := 21) X.1 X.2.1 dX8_differs_8 (by decide) (fun c_ => ?_) (fun c_ => ?_)
  · have h := ht_ c_
    refine lv_bipush (v := (-2 : Int32)) X.1 X.2.1 dX8_differs_21 (by decide) ?_
    exact r_ret X hr hlk hw h dX8_differs_23
  · have h := hf_ c_
    refine lv_iload_n X.1 X.2.1 dX8_differs_11 rfl (lv_at hl 2 rfl) ?_
    refine lv_iconst (v := (0 : Int32)) X.1 X.2.1 dX8_differs_12 (by decide) ?_
    refine lv_bipush (v := (100 : Int32)) X.1 X.2.1 dX8_differs_13 (by decide) ?_
    refine r_Si (As := [.int a2, .int (0 : Int32), .int (100 : Int32)]) (rest := []) X cN_ok (kX8_isWithin h) (va_cwS 3 X.2.2.2.2 gX8_differs_X8_isWithin rfl rfl rfl (by decide +kernel) ⟨Nat.le_of_ble_eq_true rfl, Nat.le_of_ble_eq_true rfl⟩) hw rfl hl.1 rfl (Nat.le_of_ble_eq_true rfl) dX8_differs_15 (fun r_4 M_3 H locs h hw => ?_)
    obtain ⟨ht_, hf_⟩ := h
    refine lv_if_ne (tgt := 24) X.1 X.2.1 dX8_differs_18 (by decide) (fun c_ => ?_) (fun c_ => ?_)
    · have h := ht_ c_
      refine lv_aload_n X.1 X.2.1 dX8_differs_24 rfl (lv_at hl 0 rfl) ?_
      refine r_gf X inX8_differs_X8 hw 0 rfl rfl 0 (by decide) (X.2.2.2.2 (.fieldLink RX8 12 "TestHall" "calendar" "LTestHall$Calendar;") (by decide +kernel)) rfl rfl dX8_differs_25 ?_
      refine lv_iload_n X.1 X.2.1 dX8_differs_28 rfl (lv_at hl 1 rfl) ?_
      refine lv_iload_n X.1 X.2.1 dX8_differs_29 rfl (lv_at hl 2 rfl) ?_
      refine r_Vi (As := [.int a1, .int a2]) (rest := []) X cN_ok (kX0_difference h) (cwV 2 X.2.2.2.2 gX8_differs_X0_difference rfl rfl rfl (by decide +kernel) ⟨Nat.le_of_ble_eq_true rfl, Nat.le_of_ble_eq_true rfl⟩) hw 1 0 rfl rfl rfl hl.1 rfl (Nat.le_of_ble_eq_true rfl) dX8_differs_30 (fun r_6 M_5 H locs h hw => ?_)
      exact r_ret X hr hlk hw h dX8_differs_33
    · have h := hf_ c_
      refine lv_bipush (v := (-2 : Int32)) X.1 X.2.1 dX8_differs_21 (by decide) ?_
      exact r_ret X hr hlk hw h dX8_differs_23

theorem inX8_countOfState_X1 : ∀ w ∈ wsX10, w ∈ wsX8_countOfState := fun w h => List.mem_cons_of_mem _ (List.mem_append_right _ h)
theorem inX8_countOfState_X8 : ∀ w ∈ wsX80, w ∈ wsX8_countOfState := fun w h => List.mem_cons_of_mem _ (List.mem_append_left _ (List.mem_append_right _ h))
abbrev rmX8_countOfState : Room := { frames := 0, cells := 0, slots := 0, locals := 0 }
def vX8_countOfState_28 (n : Nat) (K4 : Sg → Int32 → Int32 → Int32 → Prop) (Q : Sg → Int32 → Prop) (M : Sg) (x1 : Int32) (x2 : Int32) (x3 : Int32) : Prop := (∀ (x_1 : Int32), x_1 = x3 + (1 : Int32) → (K4 M x1 x2 x_1))
set_option maxHeartbeats 4000000 in
set_option maxRecDepth 100000 in
theorem bX8_countOfState_28 {p : Program} {l : Launch} {e : Env} {s : State} {m : MethodId} {args : Array Value} {below : List Frame} {meth : Method} {c : Code} {D : va_G} {κ : Nat → ClassId} {η : Nat → Nat} {σ : (Nat → Nat) × (Nat → Nat)} {A : Nat → Prop} {n : Nat} {Q : Sg → Int32 → Prop} {K4 : Sg → Int32 → Int32 → Int32 → Prop} (X : CallFix p m c cX8_countOfState 4 s args wsX8_countOfState RX8) (hr : meth.sig.returnType = (some .int)) (hlk : meth.locks = false) (hK4 : ∀ (M : Sg) (x1 : Int32) (x2 : Int32) (x3 : Int32) (H : Heap) (locs : List Loc) (ls : Array Slot), K4 M x1 x2 x3 → Wd (cN σ) D (Ky κ) A s (cw κ η n M) H locs → lv_has ls 4 [(0, .ref (η 0)), (1, .int x1), (2, .int x2), (3, .int x3)] → W p l e rmX8_countOfState s m args below meth c H locs 0 0 (MQ below (Qi D (Ky κ) (cw κ η n) A Q) args s 0 0 A) (F0 m 4 ls [])) : ∀ (M : Sg) (x1 : Int32) (x2 : Int32) (x3 : Int32) (H : Heap) (locs : List Loc) (ls : Array Slot), vX8_countOfState_28 n K4 Q M x1 x2 x3 → Wd (cN σ) D (Ky κ) A s (cw κ η n M) H locs → lv_has ls 4 [(0, .ref (η 0)), (1, .int x1), (2, .int x2), (3, .int x3)] → W p l e rmX8_countOfState s m args below meth c H locs 0 0 (MQ below (Qi D (Ky κ) (cw κ η n) A Q) args s 0 0 A) (F0 m 28 ls []) := by
  intro M x1 x2 x3 H locs ls h hw hl
  obtain ⟨x_1, ex_1⟩ : ∃ y : Int32, y = x3 + (1 : Int32) := ⟨_, rfl⟩
  have h := h x_1 ex_1
  refine lv_iinc (v := x_1) (lv' := [(3, .int x_1), (0, .ref (η 0)), (1, .int x1), (2, .int x2)]) X.1 X.2.1 dX8_countOfState_28 hl (k := 3) rfl (by rw [ex_1]; rfl) (by decide) rfl (fun ls hl => ?_)
  refine lv_goto (tgt := 4) X.1 X.2.1 dX8_countOfState_31 (by decide) ?_
  exact hK4 M x1 x2 x_1 _ _ _ h hw (lv_sub hl [1, 2, 3, 0] rfl)
def vX8_countOfState_4 (n : Nat) (Q : Sg → Int32 → Prop) : Nat → Sg → Int32 → Int32 → Int32 → Prop
  | 0, _, _, _, _ => False
  | f4_ + 1, M, x1, x2, x3 => (((gI M 23) ≤ x3 → (Q M x2)) ∧ (¬ (gI M 23) ≤ x3 → ((vp_in x3 60 ∧ x3.toNatClampNeg < n) ∧ ((x3.toNatClampNeg) < n ∧ ((¬ (gA M 58 (x3.toNatClampNeg)) = x1 → (vX8_countOfState_28 n (vX8_countOfState_4 n Q f4_) Q M x1 x2 x3)) ∧ ((gA M 58 (x3.toNatClampNeg)) = x1 → (∀ (x_1 : Int32), x_1 = x2 + (1 : Int32) → (vX8_countOfState_28 n (vX8_countOfState_4 n Q f4_) Q M x1 x_1 x3))))))))
set_option maxHeartbeats 4000000 in
set_option maxRecDepth 100000 in
theorem bX8_countOfState_4 {p : Program} {l : Launch} {e : Env} {s : State} {m : MethodId} {args : Array Value} {below : List Frame} {meth : Method} {c : Code} {D : va_G} {κ : Nat → ClassId} {η : Nat → Nat} {σ : (Nat → Nat) × (Nat → Nat)} {A : Nat → Prop} {n : Nat} {Q : Sg → Int32 → Prop} (X : CallFix p m c cX8_countOfState 4 s args wsX8_countOfState RX8) (hr : meth.sig.returnType = (some .int)) (hlk : meth.locks = false) : ∀ (f_ : Nat) (M : Sg) (x1 : Int32) (x2 : Int32) (x3 : Int32) (H : Heap) (locs : List Loc) (ls : Array Slot), vX8_countOfState_4 n Q f_ M x1 x2 x3 → Wd (cN σ) D (Ky κ) A s (cw κ η n M) H locs → lv_has ls 4 [(0, .ref (η 0)), (1, .int x1), (2, .int x2), (3, .int x3)] → W p l e rmX8_countOfState s m args below meth c H locs 0 0 (MQ below (Qi D (Ky κ) (cw κ η n) A Q) args s 0 0 A) (F0 m 4 ls []) := by
  intro f_
  induction f_ with
  | zero => intro M x1 x2 x3 H locs ls h; exact h.elim
  | succ f_ hK4 =>
    intro M x1 x2 x3 H locs ls h hw hl
    refine lv_iload_n X.1 X.2.1 dX8_countOfState_4 rfl (lv_at hl 3 rfl) ?_
    refine lv_aload_n X.1 X.2.1 dX8_countOfState_5 rfl (lv_at hl 0 rfl) ?_
    refine r_gf X inX8_countOfState_X8 hw 0 rfl rfl 9 (by decide) (X.2.2.2.2 (.fieldLink RX8 64 "TestHall" "learnerCount" "I") (by decide +kernel)) rfl rfl dX8_countOfState_6 ?_
    obtain ⟨ht_, hf_⟩ := h
    refine lv_icmp_ge (tgt := 34) X.1 X.2.1 dX8_countOfState_9 (by decide) (fun c_ => ?_) (fun c_ => ?_)
    · have h := ht_ c_
      refine lv_iload_n X.1 X.2.1 dX8_countOfState_34 rfl (lv_at hl 2 rfl) ?_
      exact r_ret X hr hlk hw h dX8_countOfState_35
    · have h := hf_ c_
      refine lv_aload_n X.1 X.2.1 dX8_countOfState_12 rfl (lv_at hl 0 rfl) ?_
      refine r_gf X inX8_countOfState_X8 hw 0 rfl rfl 1 (by decide) (X.2.2.2.2 (.fieldLink RX8 18 "TestHall" "learners" "[LTestHall$Learner;") (by decide +kernel)) rfl rfl dX8_countOfState_13 ?_
      refine lv_iload_n X.1 X.2.1 dX8_countOfState_16 rfl (lv_at hl 3 rfl) ?_
      obtain ⟨hi_, h⟩ := h
      refine r_lrn X hw hi_.1 hi_.2 dX8_countOfState_17 ?_
      obtain ⟨hj_, h⟩ := h
      refine r_gf X inX8_countOfState_X1 hw (49 + (x3.toNatClampNeg)) (cw_lrn hj_) rfl 8 (by decide) (X.2.2.2.2 (.fieldLink RX8 140 "TestHall$Learner" "state" "I") (by decide +kernel)) rfl rfl dX8_countOfState_18 ?_
      refine lv_iload_n X.1 X.2.1 dX8_countOfState_21 rfl (lv_at hl 1 rfl) ?_
      obtain ⟨ht_, hf_⟩ := h
      refine lv_icmp_ne (tgt := 28) X.1 X.2.1 dX8_countOfState_22 (by decide) (fun c_ => ?_) (fun c_ => ?_)
      · have h := ht_ c_
        exact bX8_countOfState_28 X hr hlk hK4 M x1 x2 x3 _ _ _ h hw (lv_sub hl [0, 1, 2, 3] rfl)
      · have h := hf_ c_
        obtain ⟨x_1, ex_1⟩ : ∃ y : Int32, y = x2 + (1 : Int32) := ⟨_, rfl⟩
        have h := h x_1 ex_1
        refine lv_iinc (v := x_1) (lv' := [(2, .int x_1), (0, .ref (η 0)), (1, .int x1), (3, .int x3)]) X.1 X.2.1 dX8_countOfState_25 hl (k := 2) rfl (by rw [ex_1]; rfl) (by decide) rfl (fun ls hl => ?_)
        exact bX8_countOfState_28 X hr hlk hK4 M x1 x_1 x3 _ _ _ h hw (lv_sub hl [1, 2, 0, 3] rfl)
def wX8_countOfState (n : Nat) (M : Sg) (a1 : Int32) (Q : Sg → Int32 → Prop) : Prop := (∃ g4_ : Nat, vX8_countOfState_4 n Q g4_ M a1 (0 : Int32) (0 : Int32))
set_option maxHeartbeats 4000000 in
set_option maxRecDepth 100000 in
theorem kX8_countOfState {l : Launch} {D : va_G} {κ : Nat → ClassId} {η : Nat → Nat} {σ : (Nat → Nat) × (Nat → Nat)} {n : Nat} {M : Sg} {a1 : Int32} {Q : Sg → Int32 → Prop} (h : wX8_countOfState n M a1 Q) : Ki (cN σ) D (Ky κ) (cw κ η n) l yX8_countOfState wsX8_countOfState rmX8_countOfState [.ref (η 0), .int a1] M Q := by
  refine ofW_g (Qc := fun A => Qi D (Ky κ) (cw κ η n) A Q) (cc := cX8_countOfState) (maxL := 4) (ret := (some .int)) (by decide) rfl (Nat.le_of_ble_eq_true rfl) ?_
  intro p e s m args below meth c A ls X hr hlk hw hl
  have hl : lv_has ls 4 [(0, .ref (η 0)), (1, .int a1)] := hl
  refine lv_iconst (v := (0 : Int32)) X.1 X.2.1 dX8_countOfState_0 (by decide) ?_
  refine lv_istore_n (lv' := [(2, .int (0 : Int32)), (0, .ref (η 0)), (1, .int a1)]) X.1 X.2.1 dX8_countOfState_1 rfl hl (by decide) rfl (fun ls hl => ?_)
  refine lv_iconst (v := (0 : Int32)) X.1 X.2.1 dX8_countOfState_2 (by decide) ?_
  refine lv_istore_n (lv' := [(3, .int (0 : Int32)), (2, .int (0 : Int32)), (0, .ref (η 0)), (1, .int a1)]) X.1 X.2.1 dX8_countOfState_3 rfl hl (by decide) rfl (fun ls hl => ?_)
  obtain ⟨f_, h⟩ := h
  exact bX8_countOfState_4 X hr hlk f_ M a1 (0 : Int32) (0 : Int32) _ _ _ h hw (lv_sub hl [2, 3, 1, 0] rfl)

theorem inX8_count_X0 : ∀ w ∈ wsX00, w ∈ wsX8_count := fun w h => List.mem_cons_of_mem _ (List.mem_append_left _ (List.mem_append_left _ (List.mem_append_left _ (List.mem_append_left _ (List.mem_append_right _ h)))))
theorem inX8_count_X3 : ∀ w ∈ wsX30, w ∈ wsX8_count := fun w h => List.mem_cons_of_mem _ (List.mem_append_left _ (List.mem_append_right _ h))
theorem inX8_count_X4 : ∀ w ∈ wsX40, w ∈ wsX8_count := fun w h => List.mem_cons_of_mem _ (List.mem_append_left _ (List.mem_append_left _ (List.mem_append_right _ h)))
theorem inX8_count_X5 : ∀ w ∈ wsX50, w ∈ wsX8_count := fun w h => List.mem_cons_of_mem _ (List.mem_append_left _ (List.mem_append_left _ (List.mem_append_left _ (List.mem_append_right _ h))))
theorem inX8_count_X8 : ∀ w ∈ wsX80, w ∈ wsX8_count := fun w h => List.mem_cons_of_mem _ (List.mem_append_left _ (List.mem_append_left _ (List.mem_append_left _ (List.mem_append_left _ (List.mem_append_left _ (List.mem_append_right _ h))))))
abbrev rmX8_count : Room := { frames := 1, cells := 0, slots := 0, locals := 23 }
def wX8_count (n : Nat) (M : Sg) (a1 : Int32) (Q : Sg → Int32 → Prop) : Prop := ((a1 = (0 : Int32) → (Q M (gI M 0))) ∧ (a1 = (1 : Int32) → (Q M (gI M 23))) ∧ (a1 = (2 : Int32) → (Q M (gI M 1))) ∧ (a1 = (3 : Int32) → (wX8_countOfState n M (a1 - (3 : Int32)) (fun M_1 r_2 => (Q M_1 r_2)))) ∧ (a1 = (4 : Int32) → (wX8_countOfState n M (a1 - (3 : Int32)) (fun M_3 r_4 => (Q M_3 r_4)))) ∧ (a1 = (5 : Int32) → (wX8_countOfState n M (a1 - (3 : Int32)) (fun M_5 r_6 => (Q M_5 r_6)))) ∧ (a1 = (6 : Int32) → (wX8_countOfState n M (a1 - (3 : Int32)) (fun M_7 r_8 => (Q M_7 r_8)))) ∧ (a1 = (7 : Int32) → (Q M (gI M 15))) ∧ (a1 = (8 : Int32) → (Q M (gI M 14))) ∧ (a1 = (9 : Int32) → (Q M (gI M 5))) ∧ (a1 = (10 : Int32) → (Q M (gI M 2))) ∧ ((¬ a1 = (0 : Int32) ∧ ¬ a1 = (1 : Int32) ∧ ¬ a1 = (2 : Int32) ∧ ¬ a1 = (3 : Int32) ∧ ¬ a1 = (4 : Int32) ∧ ¬ a1 = (5 : Int32) ∧ ¬ a1 = (6 : Int32) ∧ ¬ a1 = (7 : Int32) ∧ ¬ a1 = (8 : Int32) ∧ ¬ a1 = (9 : Int32) ∧ ¬ a1 = (10 : Int32)) → (Q M (-1 : Int32))))
set_option maxHeartbeats 4000000 in
set_option maxRecDepth 100000 in
theorem kX8_count {l : Launch} {D : va_G} {κ : Nat → ClassId} {η : Nat → Nat} {σ : (Nat → Nat) × (Nat → Nat)} {n : Nat} {M : Sg} {a1 : Int32} {Q : Sg → Int32 → Prop} (h : wX8_count n M a1 Q) : Ki (cN σ) D (Ky κ) (cw κ η n) l yX8_count wsX8_count rmX8_count [.ref (η 0), .int a1] M Q := by
  refine ofW_g (Qc := fun A => Qi D (Ky κ) (cw κ η n) A Q) (cc := cX8_count) (maxL := 2) (ret := (some .int)) (by decide) rfl (Nat.le_of_ble_eq_true rfl) ?_
  intro p e s m args below meth c A ls X hr hlk hw hl
  have hl : lv_has ls 2 [(0, .ref (η 0)), (1, .int a1)] := hl
  refine lv_iload_n X.1 X.2.1 dX8_count_0 rfl (lv_at hl 1 rfl) ?_
  obtain ⟨hs0_, hs1_, hs2_, hs3_, hs4_, hs5_, hs6_, hs7_, hs8_, hs9_, hs10_, hd_⟩ := h
  by_cases cs0_ : a1 = (0 : Int32)
  · have h := hs0_ cs0_
    refine lv_tableIn (tgt := 60) (off := (59)) X.1 X.2.1 dX8_count_1 (by rw [cs0_]; decide) (by rw [cs0_]; decide) (by rw [cs0_]; decide) (by decide) ?_
    refine lv_aload_n X.1 X.2.1 dX8_count_60 rfl (lv_at hl 0 rfl) ?_
    refine r_gf X inX8_count_X8 hw 0 rfl rfl 0 (by decide) (X.2.2.2.2 (.fieldLink RX8 12 "TestHall" "calendar" "LTestHall$Calendar;") (by decide +kernel)) rfl rfl dX8_count_61 ?_
    refine r_gf X inX8_count_X0 hw 1 rfl rfl 5 (by decide) (X.2.2.2.2 (.fieldLink RX8 231 "TestHall$Calendar" "examiners" "I") (by decide +kernel)) rfl rfl dX8_count_64 ?_
    exact r_ret X hr hlk hw h dX8_count_67
  by_cases cs1_ : a1 = (1 : Int32)
  · have h := hs1_ cs1_
    refine lv_tableIn (tgt := 68) (off := (67)) X.1 X.2.1 dX8_count_1 (by rw [cs1_]; decide) (by rw [cs1_]; decide) (by rw [cs1_]; decide) (by decide) ?_
    refine lv_aload_n X.1 X.2.1 dX8_count_68 rfl (lv_at hl 0 rfl) ?_
    refine r_gf X inX8_count_X8 hw 0 rfl rfl 9 (by decide) (X.2.2.2.2 (.fieldLink RX8 64 "TestHall" "learnerCount" "I") (by decide +kernel)) rfl rfl dX8_count_69 ?_
    exact r_ret X hr hlk hw h dX8_count_72
  by_cases cs2_ : a1 = (2 : Int32)
  · have h := hs2_ cs2_
    refine lv_tableIn (tgt := 73) (off := (72)) X.1 X.2.1 dX8_count_1 (by rw [cs2_]; decide) (by rw [cs2_]; decide) (by rw [cs2_]; decide) (by decide) ?_
    refine lv_aload_n X.1 X.2.1 dX8_count_73 rfl (lv_at hl 0 rfl) ?_
    refine r_gf X inX8_count_X8 hw 0 rfl rfl 0 (by decide) (X.2.2.2.2 (.fieldLink RX8 12 "TestHall" "calendar" "LTestHall$Calendar;") (by decide +kernel)) rfl rfl dX8_count_74 ?_
    refine r_gf X inX8_count_X0 hw 1 rfl rfl 6 (by decide) (X.2.2.2.2 (.fieldLink RX8 80 "TestHall$Calendar" "now" "I") (by decide +kernel)) rfl rfl dX8_count_77 ?_
    exact r_ret X hr hlk hw h dX8_count_80
  by_cases cs3_ : a1 = (3 : Int32)
  · have h := hs3_ cs3_
    refine lv_tableIn (tgt := 81) (off := (80)) X.1 X.2.1 dX8_count_1 (by rw [cs3_]; decide) (by rw [cs3_]; decide) (by rw [cs3_]; decide) (by decide) ?_
    refine lv_aload_n X.1 X.2.1 dX8_count_81 rfl (lv_at hl 0 rfl) ?_
    refine lv_iload_n X.1 X.2.1 dX8_count_82 rfl (lv_at hl 1 rfl) ?_
    refine lv_iconst (v := (3 : Int32)) X.1 X.2.1 dX8_count_83 (by decide) ?_
    refine lv_isub X.1 X.2.1 dX8_count_84 ?_
    refine r_Vi (As := [.int (a1 - (3 : Int32))]) (rest := []) X cN_ok (kX8_countOfState h) (cwV 1 X.2.2.2.2 gX8_count_X8_countOfState rfl rfl rfl (by decide +kernel) ⟨Nat.le_of_ble_eq_true rfl, Nat.le_of_ble_eq_true rfl⟩) hw 0 7 rfl rfl rfl hl.1 rfl (Nat.le_of_ble_eq_true rfl) dX8_count_85 (fun r_2 M_1 H locs h hw => ?_)
    exact r_ret X hr hlk hw h dX8_count_88
  by_cases cs4_ : a1 = (4 : Int32)
  · have h := hs4_ cs4_
    refine lv_tableIn (tgt := 81) (off := (80)) X.1 X.2.1 dX8_count_1 (by rw [cs4_]; decide) (by rw [cs4_]; decide) (by rw [cs4_]; decide) (by decide) ?_
    refine lv_aload_n X.1 X.2.1 dX8_count_81 rfl (lv_at hl 0 rfl) ?_
    refine lv_iload_n X.1 X.2.1 dX8_count_82 rfl (lv_at hl 1 rfl) ?_
    refine lv_iconst (v := (3 : Int32)) X.1 X.2.1 dX8_count_83 (by decide) ?_
    refine lv_isub X.1 X.2.1 dX8_count_84 ?_
    refine r_Vi (As := [.int (a1 - (3 : Int32))]) (rest := []) X cN_ok (kX8_countOfState h) (cwV 1 X.2.2.2.2 gX8_count_X8_countOfState rfl rfl rfl (by decide +kernel) ⟨Nat.le_of_ble_eq_true rfl, Nat.le_of_ble_eq_true rfl⟩) hw 0 7 rfl rfl rfl hl.1 rfl (Nat.le_of_ble_eq_true rfl) dX8_count_85 (fun r_4 M_3 H locs h hw => ?_)
    exact r_ret X hr hlk hw h dX8_count_88
  by_cases cs5_ : a1 = (5 : Int32)
  · have h := hs5_ cs5_
    refine lv_tableIn (tgt := 81) (off := (80)) X.1 X.2.1 dX8_count_1 (by rw [cs5_]; decide) (by rw [cs5_]; decide) (by rw [cs5_]; decide) (by decide) ?_
    refine lv_aload_n X.1 X.2.1 dX8_count_81 rfl (lv_at hl 0 rfl) ?_
    refine lv_iload_n X.1 X.2.1 dX8_count_82 rfl (lv_at hl 1 rfl) ?_
    refine lv_iconst (v := (3 : Int32)) X.1 X.2.1 dX8_count_83 (by decide) ?_
    refine lv_isub X.1 X.2.1 dX8_count_84 ?_
    refine r_Vi (As := [.int (a1 - (3 : Int32))]) (rest := []) X cN_ok (kX8_countOfState h) (cwV 1 X.2.2.2.2 gX8_count_X8_countOfState rfl rfl rfl (by decide +kernel) ⟨Nat.le_of_ble_eq_true rfl, Nat.le_of_ble_eq_true rfl⟩) hw 0 7 rfl rfl rfl hl.1 rfl (Nat.le_of_ble_eq_true rfl) dX8_count_85 (fun r_6 M_5 H locs h hw => ?_)
    exact r_ret X hr hlk hw h dX8_count_88
  by_cases cs6_ : a1 = (6 : Int32)
  · have h := hs6_ cs6_
    refine lv_tableIn (tgt := 81) (off := (80)) X.1 X.2.1 dX8_count_1 (by rw [cs6_]; decide) (by rw [cs6_]; decide) (by rw [cs6_]; decide) (by decide) ?_
    refine lv_aload_n X.1 X.2.1 dX8_count_81 rfl (lv_at hl 0 rfl) ?_
    refine lv_iload_n X.1 X.2.1 dX8_count_82 rfl (lv_at hl 1 rfl) ?_
    refine lv_iconst (v := (3 : Int32)) X.1 X.2.1 dX8_count_83 (by decide) ?_
    refine lv_isub X.1 X.2.1 dX8_count_84 ?_
    refine r_Vi (As := [.int (a1 - (3 : Int32))]) (rest := []) X cN_ok (kX8_countOfState h) (cwV 1 X.2.2.2.2 gX8_count_X8_countOfState rfl rfl rfl (by decide +kernel) ⟨Nat.le_of_ble_eq_true rfl, Nat.le_of_ble_eq_true rfl⟩) hw 0 7 rfl rfl rfl hl.1 rfl (Nat.le_of_ble_eq_true rfl) dX8_count_85 (fun r_8 M_7 H locs h hw => ?_)
    exact r_ret X hr hlk hw h dX8_count_88
  by_cases cs7_ : a1 = (7 : Int32)
  · have h := hs7_ cs7_
    refine lv_tableIn (tgt := 89) (off := (88)) X.1 X.2.1 dX8_count_1 (by rw [cs7_]; decide) (by rw [cs7_]; decide) (by rw [cs7_]; decide) (by decide) ?_
    refine lv_aload_n X.1 X.2.1 dX8_count_89 rfl (lv_at hl 0 rfl) ?_
    refine r_gf X inX8_count_X8 hw 0 rfl rfl 7 (by decide) (X.2.2.2.2 (.fieldLink RX8 57 "TestHall" "order" "LTestHall$Text;") (by decide +kernel)) rfl rfl dX8_count_90 ?_
    refine r_gf X inX8_count_X5 hw 6 rfl rfl 4 (by decide) (X.2.2.2.2 (.fieldLink RX8 237 "TestHall$Text" "lines" "I") (by decide +kernel)) rfl rfl dX8_count_93 ?_
    exact r_ret X hr hlk hw h dX8_count_96
  by_cases cs8_ : a1 = (8 : Int32)
  · have h := hs8_ cs8_
    refine lv_tableIn (tgt := 97) (off := (96)) X.1 X.2.1 dX8_count_1 (by rw [cs8_]; decide) (by rw [cs8_]; decide) (by rw [cs8_]; decide) (by decide) ?_
    refine lv_aload_n X.1 X.2.1 dX8_count_97 rfl (lv_at hl 0 rfl) ?_
    refine r_gf X inX8_count_X8 hw 0 rfl rfl 4 (by decide) (X.2.2.2.2 (.fieldLink RX8 38 "TestHall" "tape" "LTestHall$Tape;") (by decide +kernel)) rfl rfl dX8_count_98 ?_
    refine r_gf X inX8_count_X4 hw 3 rfl rfl 1 (by decide) (X.2.2.2.2 (.fieldLink RX8 123 "TestHall$Tape" "length" "I") (by decide +kernel)) rfl rfl dX8_count_101 ?_
    exact r_ret X hr hlk hw h dX8_count_104
  by_cases cs9_ : a1 = (9 : Int32)
  · have h := hs9_ cs9_
    refine lv_tableIn (tgt := 105) (off := (104)) X.1 X.2.1 dX8_count_1 (by rw [cs9_]; decide) (by rw [cs9_]; decide) (by rw [cs9_]; decide) (by decide) ?_
    refine lv_aload_n X.1 X.2.1 dX8_count_105 rfl (lv_at hl 0 rfl) ?_
    refine r_gf X inX8_count_X8 hw 0 rfl rfl 6 (by decide) (X.2.2.2.2 (.fieldLink RX8 52 "TestHall" "streets" "LTestHall$Streets;") (by decide +kernel)) rfl rfl dX8_count_106 ?_
    refine r_gf X inX8_count_X3 hw 5 rfl rfl 9 (by decide) (X.2.2.2.2 (.fieldLink RX8 240 "TestHall$Streets" "size" "I") (by decide +kernel)) rfl rfl dX8_count_109 ?_
    exact r_ret X hr hlk hw h dX8_count_112
  by_cases cs10_ : a1 = (10 : Int32)
  · have h := hs10_ cs10_
    refine lv_tableIn (tgt := 113) (off := (112)) X.1 X.2.1 dX8_count_1 (by rw [cs10_]; decide) (by rw [cs10_]; decide) (by rw [cs10_]; decide) (by decide) ?_
    refine lv_aload_n X.1 X.2.1 dX8_count_113 rfl (lv_at hl 0 rfl) ?_
    refine r_gf X inX8_count_X8 hw 0 rfl rfl 0 (by decide) (X.2.2.2.2 (.fieldLink RX8 12 "TestHall" "calendar" "LTestHall$Calendar;") (by decide +kernel)) rfl rfl dX8_count_114 ?_
    refine r_gf X inX8_count_X0 hw 1 rfl rfl 7 (by decide) (X.2.2.2.2 (.fieldLink RX8 241 "TestHall$Calendar" "allTests" "I") (by decide +kernel)) rfl rfl dX8_count_117 ?_
    exact r_ret X hr hlk hw h dX8_count_120
  have h := hd_ ⟨cs0_, cs1_, cs2_, cs3_, cs4_, cs5_, cs6_, cs7_, cs8_, cs9_, cs10_⟩
  have cn0_ : ¬ (a1).toInt = 0 := fun q => cs0_ (Int32.toInt_inj.mp (q.trans (by decide)))
  have cn1_ : ¬ (a1).toInt = 1 := fun q => cs1_ (Int32.toInt_inj.mp (q.trans (by decide)))
  have cn2_ : ¬ (a1).toInt = 2 := fun q => cs2_ (Int32.toInt_inj.mp (q.trans (by decide)))
  have cn3_ : ¬ (a1).toInt = 3 := fun q => cs3_ (Int32.toInt_inj.mp (q.trans (by decide)))
  have cn4_ : ¬ (a1).toInt = 4 := fun q => cs4_ (Int32.toInt_inj.mp (q.trans (by decide)))
  have cn5_ : ¬ (a1).toInt = 5 := fun q => cs5_ (Int32.toInt_inj.mp (q.trans (by decide)))
  have cn6_ : ¬ (a1).toInt = 6 := fun q => cs6_ (Int32.toInt_inj.mp (q.trans (by decide)))
  have cn7_ : ¬ (a1).toInt = 7 := fun q => cs7_ (Int32.toInt_inj.mp (q.trans (by decide)))
  have cn8_ : ¬ (a1).toInt = 8 := fun q => cs8_ (Int32.toInt_inj.mp (q.trans (by decide)))
  have cn9_ : ¬ (a1).toInt = 9 := fun q => cs9_ (Int32.toInt_inj.mp (q.trans (by decide)))
  have cn10_ : ¬ (a1).toInt = 10 := fun q => cs10_ (Int32.toInt_inj.mp (q.trans (by decide)))
  refine lv_tableOut (tgt := 121) X.1 X.2.1 dX8_count_1 (by omega) (by decide) ?_
  refine lv_iconst (v := (-1 : Int32)) X.1 X.2.1 dX8_count_121 (by decide) ?_
  exact r_ret X hr hlk hw h dX8_count_122

theorem inX8_countBookedWith_X1 : ∀ w ∈ wsX10, w ∈ wsX8_countBookedWith := fun w h => List.mem_cons_of_mem _ (List.mem_append_right _ h)
theorem inX8_countBookedWith_X8 : ∀ w ∈ wsX80, w ∈ wsX8_countBookedWith := fun w h => List.mem_cons_of_mem _ (List.mem_append_left _ (List.mem_append_right _ h))
abbrev rmX8_countBookedWith : Room := { frames := 1, cells := 0, slots := 0, locals := 20 }
def vX8_countBookedWith_44 (n : Nat) (K4 : Sg → Int32 → Int32 → Int32 → Prop) (Q : Sg → Int32 → Prop) (M : Sg) (x1 : Int32) (x2 : Int32) (x3 : Int32) : Prop := (∀ (x_1 : Int32), x_1 = x3 + (1 : Int32) → (K4 M x1 x2 x_1))
set_option maxHeartbeats 4000000 in
set_option maxRecDepth 100000 in
theorem bX8_countBookedWith_44 {p : Program} {l : Launch} {e : Env} {s : State} {m : MethodId} {args : Array Value} {below : List Frame} {meth : Method} {c : Code} {D : va_G} {κ : Nat → ClassId} {η : Nat → Nat} {σ : (Nat → Nat) × (Nat → Nat)} {A : Nat → Prop} {n : Nat} {Q : Sg → Int32 → Prop} {K4 : Sg → Int32 → Int32 → Int32 → Prop} (X : CallFix p m c cX8_countBookedWith 4 s args wsX8_countBookedWith RX8) (hr : meth.sig.returnType = (some .int)) (hlk : meth.locks = false) (hK4 : ∀ (M : Sg) (x1 : Int32) (x2 : Int32) (x3 : Int32) (H : Heap) (locs : List Loc) (ls : Array Slot), K4 M x1 x2 x3 → Wd (cN σ) D (Ky κ) A s (cw κ η n M) H locs → lv_has ls 4 [(0, .ref (η 0)), (1, .int x1), (2, .int x2), (3, .int x3)] → W p l e rmX8_countBookedWith s m args below meth c H locs 0 0 (MQ below (Qi D (Ky κ) (cw κ η n) A Q) args s 0 0 A) (F0 m 4 ls [])) : ∀ (M : Sg) (x1 : Int32) (x2 : Int32) (x3 : Int32) (H : Heap) (locs : List Loc) (ls : Array Slot), vX8_countBookedWith_44 n K4 Q M x1 x2 x3 → Wd (cN σ) D (Ky κ) A s (cw κ η n M) H locs → lv_has ls 4 [(0, .ref (η 0)), (1, .int x1), (2, .int x2), (3, .int x3)] → W p l e rmX8_countBookedWith s m args below meth c H locs 0 0 (MQ below (Qi D (Ky κ) (cw κ η n) A Q) args s 0 0 A) (F0 m 44 ls []) := by
  intro M x1 x2 x3 H locs ls h hw hl
  obtain ⟨x_1, ex_1⟩ : ∃ y : Int32, y = x3 + (1 : Int32) := ⟨_, rfl⟩
  have h := h x_1 ex_1
  refine lv_iinc (v := x_1) (lv' := [(3, .int x_1), (0, .ref (η 0)), (1, .int x1), (2, .int x2)]) X.1 X.2.1 dX8_countBookedWith_44 hl (k := 3) rfl (by rw [ex_1]; rfl) (by decide) rfl (fun ls hl => ?_)
  refine lv_goto (tgt := 4) X.1 X.2.1 dX8_countBookedWith_47 (by decide) ?_
  exact hK4 M x1 x2 x_1 _ _ _ h hw (lv_sub hl [1, 2, 3, 0] rfl)
def vX8_countBookedWith_4 (n : Nat) (Q : Sg → Int32 → Prop) : Nat → Sg → Int32 → Int32 → Int32 → Prop
  | 0, _, _, _, _ => False
  | f4_ + 1, M, x1, x2, x3 => (((gI M 23) ≤ x3 → (Q M x2)) ∧ (¬ (gI M 23) ≤ x3 → ((vp_in x3 60 ∧ x3.toNatClampNeg < n) ∧ ((x3.toNatClampNeg) < n ∧ ((¬ (gA M 58 (x3.toNatClampNeg)) = (1 : Int32) → (vX8_countBookedWith_44 n (vX8_countBookedWith_4 n Q f4_) Q M x1 x2 x3)) ∧ ((gA M 58 (x3.toNatClampNeg)) = (1 : Int32) → ((vp_in x3 60 ∧ x3.toNatClampNeg < n) ∧ ((x3.toNatClampNeg) < n ∧ (wX8_examinerOf n M (gA M 59 (x3.toNatClampNeg)) (fun M_1 r_2 => ((¬ r_2 = x1 → (vX8_countBookedWith_44 n (vX8_countBookedWith_4 n Q f4_) Q M_1 x1 x2 x3)) ∧ (r_2 = x1 → (∀ (x_3 : Int32), x_3 = x2 + (1 : Int32) → (vX8_countBookedWith_44 n (vX8_countBookedWith_4 n Q f4_) Q M_1 x1 x_3 x3))))))))))))))
set_option maxHeartbeats 4000000 in
set_option maxRecDepth 100000 in
theorem bX8_countBookedWith_4 {p : Program} {l : Launch} {e : Env} {s : State} {m : MethodId} {args : Array Value} {below : List Frame} {meth : Method} {c : Code} {D : va_G} {κ : Nat → ClassId} {η : Nat → Nat} {σ : (Nat → Nat) × (Nat → Nat)} {A : Nat → Prop} {n : Nat} {Q : Sg → Int32 → Prop} (X : CallFix p m c cX8_countBookedWith 4 s args wsX8_countBookedWith RX8) (hr : meth.sig.returnType = (some .int)) (hlk : meth.locks = false) : ∀ (f_ : Nat) (M : Sg) (x1 : Int32) (x2 : Int32) (x3 : Int32) (H : Heap) (locs : List Loc) (ls : Array Slot), vX8_countBookedWith_4 n Q f_ M x1 x2 x3 → Wd (cN σ) D (Ky κ) A s (cw κ η n M) H locs → lv_has ls 4 [(0, .ref (η 0)), (1, .int x1), (2, .int x2), (3, .int x3)] → W p l e rmX8_countBookedWith s m args below meth c H locs 0 0 (MQ below (Qi D (Ky κ) (cw κ η n) A Q) args s 0 0 A) (F0 m 4 ls []) := by
  intro f_
  induction f_ with
  | zero => intro M x1 x2 x3 H locs ls h; exact h.elim
  | succ f_ hK4 =>
    intro M x1 x2 x3 H locs ls h hw hl
    refine lv_iload_n X.1 X.2.1 dX8_countBookedWith_4 rfl (lv_at hl 3 rfl) ?_
    refine lv_aload_n X.1 X.2.1 dX8_countBookedWith_5 rfl (lv_at hl 0 rfl) ?_
    refine r_gf X inX8_countBookedWith_X8 hw 0 rfl rfl 9 (by decide) (X.2.2.2.2 (.fieldLink RX8 64 "TestHall" "learnerCount" "I") (by decide +kernel)) rfl rfl dX8_countBookedWith_6 ?_
    obtain ⟨ht_, hf_⟩ := h
    refine lv_icmp_ge (tgt := 50) X.1 X.2.1 dX8_countBookedWith_9 (by decide) (fun c_ => ?_) (fun c_ => ?_)
    · have h := ht_ c_
      refine lv_iload_n X.1 X.2.1 dX8_countBookedWith_50 rfl (lv_at hl 2 rfl) ?_
      exact r_ret X hr hlk hw h dX8_countBookedWith_51
    · have h := hf_ c_
      refine lv_aload_n X.1 X.2.1 dX8_countBookedWith_12 rfl (lv_at hl 0 rfl) ?_
      refine r_gf X inX8_countBookedWith_X8 hw 0 rfl rfl 1 (by decide) (X.2.2.2.2 (.fieldLink RX8 18 "TestHall" "learners" "[LTestHall$Learner;") (by decide +kernel)) rfl rfl dX8_countBookedWith_13 ?_
      refine lv_iload_n X.1 X.2.1 dX8_countBookedWith_16 rfl (lv_at hl 3 rfl) ?_
      obtain ⟨hi_, h⟩ := h
      refine r_lrn X hw hi_.1 hi_.2 dX8_countBookedWith_17 ?_
      obtain ⟨hj_, h⟩ := h
      refine r_gf X inX8_countBookedWith_X1 hw (49 + (x3.toNatClampNeg)) (cw_lrn hj_) rfl 8 (by decide) (X.2.2.2.2 (.fieldLink RX8 140 "TestHall$Learner" "state" "I") (by decide +kernel)) rfl rfl dX8_countBookedWith_18 ?_
      refine lv_iconst (v := (1 : Int32)) X.1 X.2.1 dX8_countBookedWith_21 (by decide) ?_
      obtain ⟨ht_, hf_⟩ := h
      refine lv_icmp_ne (tgt := 44) X.1 X.2.1 dX8_countBookedWith_22 (by decide) (fun c_ => ?_) (fun c_ => ?_)
      · have h := ht_ c_
        exact bX8_countBookedWith_44 X hr hlk hK4 M x1 x2 x3 _ _ _ h hw (lv_sub hl [0, 1, 2, 3] rfl)
      · have h := hf_ c_
        refine lv_aload_n X.1 X.2.1 dX8_countBookedWith_25 rfl (lv_at hl 0 rfl) ?_
        refine r_gf X inX8_countBookedWith_X8 hw 0 rfl rfl 1 (by decide) (X.2.2.2.2 (.fieldLink RX8 18 "TestHall" "learners" "[LTestHall$Learner;") (by decide +kernel)) rfl rfl dX8_countBookedWith_26 ?_
        refine lv_iload_n X.1 X.2.1 dX8_countBookedWith_29 rfl (lv_at hl 3 rfl) ?_
        obtain ⟨hi_, h⟩ := h
        refine r_lrn X hw hi_.1 hi_.2 dX8_countBookedWith_30 ?_
        obtain ⟨hj_, h⟩ := h
        refine r_gf X inX8_countBookedWith_X1 hw (49 + (x3.toNatClampNeg)) (cw_lrn hj_) rfl 9 (by decide) (X.2.2.2.2 (.fieldLink RX8 143 "TestHall$Learner" "slot" "I") (by decide +kernel)) rfl rfl dX8_countBookedWith_31 ?_
        refine r_Si (As := [.int (gA M 59 (x3.toNatClampNeg))]) (rest := []) X cN_ok (kX8_examinerOf h) (va_cwS 1 X.2.2.2.2 gX8_countBookedWith_X8_examinerOf rfl rfl rfl (by decide +kernel) ⟨Nat.le_of_ble_eq_true rfl, Nat.le_of_ble_eq_true rfl⟩) hw rfl hl.1 rfl (Nat.le_of_ble_eq_true rfl) dX8_countBookedWith_34 (fun r_2 M_1 H locs h hw => ?_)
        refine lv_iload_n X.1 X.2.1 dX8_countBookedWith_37 rfl (lv_at hl 1 rfl) ?_
        obtain ⟨ht_, hf_⟩ := h
        refine lv_icmp_ne (tgt := 44) X.1 X.2.1 dX8_countBookedWith_38 (by decide) (fun c_ => ?_) (fun c_ => ?_)
        · have h := ht_ c_
          exact bX8_countBookedWith_44 X hr hlk hK4 M_1 x1 x2 x3 _ _ _ h hw (lv_sub hl [0, 1, 2, 3] rfl)
        · have h := hf_ c_
          obtain ⟨x_3, ex_3⟩ : ∃ y : Int32, y = x2 + (1 : Int32) := ⟨_, rfl⟩
          have h := h x_3 ex_3
          refine lv_iinc (v := x_3) (lv' := [(2, .int x_3), (0, .ref (η 0)), (1, .int x1), (3, .int x3)]) X.1 X.2.1 dX8_countBookedWith_41 hl (k := 2) rfl (by rw [ex_3]; rfl) (by decide) rfl (fun ls hl => ?_)
          exact bX8_countBookedWith_44 X hr hlk hK4 M_1 x1 x_3 x3 _ _ _ h hw (lv_sub hl [1, 2, 0, 3] rfl)
def wX8_countBookedWith (n : Nat) (M : Sg) (a1 : Int32) (Q : Sg → Int32 → Prop) : Prop := (∃ g4_ : Nat, vX8_countBookedWith_4 n Q g4_ M a1 (0 : Int32) (0 : Int32))
set_option maxHeartbeats 4000000 in
set_option maxRecDepth 100000 in
theorem kX8_countBookedWith {l : Launch} {D : va_G} {κ : Nat → ClassId} {η : Nat → Nat} {σ : (Nat → Nat) × (Nat → Nat)} {n : Nat} {M : Sg} {a1 : Int32} {Q : Sg → Int32 → Prop} (h : wX8_countBookedWith n M a1 Q) : Ki (cN σ) D (Ky κ) (cw κ η n) l yX8_countBookedWith wsX8_countBookedWith rmX8_countBookedWith [.ref (η 0), .int a1] M Q := by
  refine ofW_g (Qc := fun A => Qi D (Ky κ) (cw κ η n) A Q) (cc := cX8_countBookedWith) (maxL := 4) (ret := (some .int)) (by decide) rfl (Nat.le_of_ble_eq_true rfl) ?_
  intro p e s m args below meth c A ls X hr hlk hw hl
  have hl : lv_has ls 4 [(0, .ref (η 0)), (1, .int a1)] := hl
  refine lv_iconst (v := (0 : Int32)) X.1 X.2.1 dX8_countBookedWith_0 (by decide) ?_
  refine lv_istore_n (lv' := [(2, .int (0 : Int32)), (0, .ref (η 0)), (1, .int a1)]) X.1 X.2.1 dX8_countBookedWith_1 rfl hl (by decide) rfl (fun ls hl => ?_)
  refine lv_iconst (v := (0 : Int32)) X.1 X.2.1 dX8_countBookedWith_2 (by decide) ?_
  refine lv_istore_n (lv' := [(3, .int (0 : Int32)), (2, .int (0 : Int32)), (0, .ref (η 0)), (1, .int a1)]) X.1 X.2.1 dX8_countBookedWith_3 rfl hl (by decide) rfl (fun ls hl => ?_)
  obtain ⟨f_, h⟩ := h
  exact bX8_countBookedWith_4 X hr hlk f_ M a1 (0 : Int32) (0 : Int32) _ _ _ h hw (lv_sub hl [2, 3, 1, 0] rfl)

theorem inX8_load_X8 : ∀ w ∈ wsX80, w ∈ wsX8_load := fun w h => List.mem_cons_of_mem _ (List.mem_append_left _ (List.mem_append_left _ (List.mem_append_right _ h)))
abbrev rmX8_load : Room := { frames := 2, cells := 0, slots := 0, locals := 43 }
def wX8_load (n : Nat) (M : Sg) (a1 : Int32) (a2 : Int32) (Q : Sg → Int32 → Prop) : Prop := (wX0_isExaminer n M a1 (fun M_1 r_2 => ((¬ r_2 = 0 → ((a2 = (0 : Int32) → (wX0_testsOf n M_1 a1 (fun M_3 r_4 => (Q M_3 r_4)))) ∧ (a2 = (1 : Int32) → (wX0_passesOf n M_1 a1 (fun M_5 r_6 => (Q M_5 r_6)))) ∧ (a2 = (2 : Int32) → (wX8_countBookedWith n M_1 a1 (fun M_7 r_8 => (Q M_7 r_8)))) ∧ ((¬ a2 = (0 : Int32) ∧ ¬ a2 = (1 : Int32) ∧ ¬ a2 = (2 : Int32)) → (Q M_1 (-1 : Int32))))) ∧ (r_2 = 0 → (Q M_1 (-1 : Int32))))))
set_option maxHeartbeats 4000000 in
set_option maxRecDepth 100000 in
theorem kX8_load {l : Launch} {D : va_G} {κ : Nat → ClassId} {η : Nat → Nat} {σ : (Nat → Nat) × (Nat → Nat)} {n : Nat} {M : Sg} {a1 : Int32} {a2 : Int32} {Q : Sg → Int32 → Prop} (h : wX8_load n M a1 a2 Q) : Ki (cN σ) D (Ky κ) (cw κ η n) l yX8_load wsX8_load rmX8_load [.ref (η 0), .int a1, .int a2] M Q := by
  refine ofW_g (Qc := fun A => Qi D (Ky κ) (cw κ η n) A Q) (cc := cX8_load) (maxL := 3) (ret := (some .int)) (by decide) rfl (Nat.le_of_ble_eq_true rfl) ?_
  intro p e s m args below meth c A ls X hr hlk hw hl
  have hl : lv_has ls 3 [(0, .ref (η 0)), (1, .int a1), (2, .int a2)] := hl
  refine lv_aload_n X.1 X.2.1 dX8_load_0 rfl (lv_at hl 0 rfl) ?_
  refine r_gf X inX8_load_X8 hw 0 rfl rfl 0 (by decide) (X.2.2.2.2 (.fieldLink RX8 12 "TestHall" "calendar" "LTestHall$Calendar;") (by decide +kernel)) rfl rfl dX8_load_1 ?_
  refine lv_iload_n X.1 X.2.1 dX8_load_4 rfl (lv_at hl 1 rfl) ?_
  refine r_Vi (As := [.int a1]) (rest := []) X cN_ok (kX0_isExaminer h) (cwV 1 X.2.2.2.2 gX8_load_X0_isExaminer rfl rfl rfl (by decide +kernel) ⟨Nat.le_of_ble_eq_true rfl, Nat.le_of_ble_eq_true rfl⟩) hw 1 0 rfl rfl rfl hl.1 rfl (Nat.le_of_ble_eq_true rfl) dX8_load_5 (fun r_2 M_1 H locs h hw => ?_)
  obtain ⟨ht_, hf_⟩ := h
  refine lv_if_ne (tgt := 13) X.1 X.2.1 dX8_load_8 (by decide) (fun c_ => ?_) (fun c_ => ?_)
  · have h := ht_ c_
    refine lv_iload_n X.1 X.2.1 dX8_load_13 rfl (lv_at hl 2 rfl) ?_
    obtain ⟨hs0_, hs1_, hs2_, hd_⟩ := h
    by_cases cs0_ : a2 = (0 : Int32)
    · have h := hs0_ cs0_
      refine lv_tableIn (tgt := 40) (off := (26)) X.1 X.2.1 dX8_load_14 (by rw [cs0_]; decide) (by rw [cs0_]; decide) (by rw [cs0_]; decide) (by decide) ?_
      refine lv_aload_n X.1 X.2.1 dX8_load_40 rfl (lv_at hl 0 rfl) ?_
      refine r_gf X inX8_load_X8 hw 0 rfl rfl 0 (by decide) (X.2.2.2.2 (.fieldLink RX8 12 "TestHall" "calendar" "LTestHall$Calendar;") (by decide +kernel)) rfl rfl dX8_load_41 ?_
      refine lv_iload_n X.1 X.2.1 dX8_load_44 rfl (lv_at hl 1 rfl) ?_
      refine r_Vi (As := [.int a1]) (rest := []) X cN_ok (kX0_testsOf h) (cwV 1 X.2.2.2.2 gX8_load_X0_testsOf rfl rfl rfl (by decide +kernel) ⟨Nat.le_of_ble_eq_true rfl, Nat.le_of_ble_eq_true rfl⟩) hw 1 0 rfl rfl rfl hl.1 rfl (Nat.le_of_ble_eq_true rfl) dX8_load_45 (fun r_4 M_3 H locs h hw => ?_)
      exact r_ret X hr hlk hw h dX8_load_48
    by_cases cs1_ : a2 = (1 : Int32)
    · have h := hs1_ cs1_
      refine lv_tableIn (tgt := 49) (off := (35)) X.1 X.2.1 dX8_load_14 (by rw [cs1_]; decide) (by rw [cs1_]; decide) (by rw [cs1_]; decide) (by decide) ?_
      refine lv_aload_n X.1 X.2.1 dX8_load_49 rfl (lv_at hl 0 rfl) ?_
      refine r_gf X inX8_load_X8 hw 0 rfl rfl 0 (by decide) (X.2.2.2.2 (.fieldLink RX8 12 "TestHall" "calendar" "LTestHall$Calendar;") (by decide +kernel)) rfl rfl dX8_load_50 ?_
      refine lv_iload_n X.1 X.2.1 dX8_load_53 rfl (lv_at hl 1 rfl) ?_
      refine r_Vi (As := [.int a1]) (rest := []) X cN_ok (kX0_passesOf h) (cwV 1 X.2.2.2.2 gX8_load_X0_passesOf rfl rfl rfl (by decide +kernel) ⟨Nat.le_of_ble_eq_true rfl, Nat.le_of_ble_eq_true rfl⟩) hw 1 0 rfl rfl rfl hl.1 rfl (Nat.le_of_ble_eq_true rfl) dX8_load_54 (fun r_6 M_5 H locs h hw => ?_)
      exact r_ret X hr hlk hw h dX8_load_57
    by_cases cs2_ : a2 = (2 : Int32)
    · have h := hs2_ cs2_
      refine lv_tableIn (tgt := 58) (off := (44)) X.1 X.2.1 dX8_load_14 (by rw [cs2_]; decide) (by rw [cs2_]; decide) (by rw [cs2_]; decide) (by decide) ?_
      refine lv_aload_n X.1 X.2.1 dX8_load_58 rfl (lv_at hl 0 rfl) ?_
      refine lv_iload_n X.1 X.2.1 dX8_load_59 rfl (lv_at hl 1 rfl) ?_
      refine r_Vi (As := [.int a1]) (rest := []) X cN_ok (kX8_countBookedWith h) (cwV 1 X.2.2.2.2 gX8_load_X8_countBookedWith rfl rfl rfl (by decide +kernel) ⟨Nat.le_of_ble_eq_true rfl, Nat.le_of_ble_eq_true rfl⟩) hw 0 7 rfl rfl rfl hl.1 rfl (Nat.le_of_ble_eq_true rfl) dX8_load_60 (fun r_8 M_7 H locs h hw => ?_)
      exact r_ret X hr hlk hw h dX8_load_63
    have h := hd_ ⟨cs0_, cs1_, cs2_⟩
    have cn0_ : ¬ (a2).toInt = 0 := fun q => cs0_ (Int32.toInt_inj.mp (q.trans (by decide)))
    have cn1_ : ¬ (a2).toInt = 1 := fun q => cs1_ (Int32.toInt_inj.mp (q.trans (by decide)))
    have cn2_ : ¬ (a2).toInt = 2 := fun q => cs2_ (Int32.toInt_inj.mp (q.trans (by decide)))
    refine lv_tableOut (tgt := 64) X.1 X.2.1 dX8_load_14 (by omega) (by decide) ?_
    refine lv_iconst (v := (-1 : Int32)) X.1 X.2.1 dX8_load_64 (by decide) ?_
    exact r_ret X hr hlk hw h dX8_load_65
  · have h := hf_ c_
    refine lv_iconst (v := (-1 : Int32)) X.1 X.2.1 dX8_load_11 (by decide) ?_
    exact r_ret X hr hlk hw h dX8_load_12
