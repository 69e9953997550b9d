theorem inX8_examiner_X8 : ∀ w ∈ wsX80, w ∈ wsX8_examiner := fun w h => List.mem_cons_of_mem _ (List.mem_append_left _ (List.mem_append_right _ h))
abbrev rmX8_examiner : Room := { frames := 1, cells := 0, slots := 0, locals := 20 }
def wX8_examiner (n : Nat) (M : Sg) (Q : Sg → Int32 → Prop) : Prop := (wX0_addExaminer n M (fun M_1 r_2 => (Q M_1 r_2)))
set_option maxHeartbeats 4000000 in
set_option maxRecDepth 100000 in
theorem kX8_examiner {l : Launch} {D : va_G} {κ : Nat → ClassId} {η : Nat → Nat} {σ : (Nat → Nat) × (Nat → Nat)} {n : Nat} {M : Sg} {Q : Sg → Int32 → Prop} (h : wX8_examiner n M Q) : Ki (cN σ) D (Ky κ) (cw κ η n) l yX8_examiner wsX8_examiner rmX8_examiner [.ref (η 0)] M Q := by
  refine ofW_g (Qc := fun A => Qi D (Ky κ) (cw κ η n) A Q) (cc := cX8_examiner) (maxL := 1) (ret := (some .int)) (by decide) rfl (Nat.le_of_ble_eq_true rfl) ?_
  intro p e s m args below meth c A ls X hr hlk hw hl
  have hl : lv_has ls 1 [(0, .ref (η 0))] := hl
  refine lv_aload_n X.1 X.2.1 dX8_examiner_0 rfl (lv_at hl 0 rfl) ?_
  refine r_gf X inX8_examiner_X8 hw 0 rfl rfl 0 (by decide) (X.2.2.2.2 (.fieldLink RX8 12 "TestHall" "calendar" "LTestHall$Calendar;") (by decide +kernel)) rfl rfl dX8_examiner_1 ?_
  refine r_Vi (As := []) (rest := []) X cN_ok (kX0_addExaminer h) (cwV 0 X.2.2.2.2 gX8_examiner_X0_addExaminer rfl rfl rfl (by decide +kernel) ⟨Nat.le_of_ble_eq_true rfl, Nat.le_of_ble_eq_true rfl⟩) hw 1 0 rfl rfl rfl hl.1 rfl (Nat.le_of_ble_eq_true rfl) dX8_examiner_4 (fun r_2 M_1 H locs h hw => ?_)
  exact r_ret X hr hlk hw h dX8_examiner_7

theorem inX8_isStillThere_X1 : ∀ w ∈ wsX10, w ∈ wsX8_isStillThere := fun w h => List.mem_cons_of_mem _ (List.mem_append_left _ (List.mem_append_left _ (List.mem_append_right _ h)))
theorem inX8_isStillThere_X8 : ∀ w ∈ wsX80, w ∈ wsX8_isStillThere := fun w h => List.mem_cons_of_mem _ (List.mem_append_left _ (List.mem_append_right _ h))
abbrev rmX8_isStillThere : Room := { frames := 2, cells := 0, slots := 0, locals := 47 }
def wX8_isStillThere (n : Nat) (M : Sg) (a1 : Nat) (Q : Sg → Int32 → Prop) : Prop := (a1 < n ∧ (wX8_dayOf n M (gA M 59 a1) (fun M_1 r_2 => (a1 < n ∧ (wX8_examinerOf n M_1 (gA M_1 59 a1) (fun M_3 r_4 => (a1 < n ∧ (wX8_hourOf n M_3 (gA M_3 59 a1) (fun M_5 r_6 => (wX0_hasHour n M_5 r_2 r_6 r_4 (fun M_7 r_8 => ((r_8 = 0 → (Q M_7 (0 : Int32))) ∧ (¬ r_8 = 0 → (wX0_townOf n M_7 r_4 r_2 (fun M_9 r_10 => (a1 < n ∧ ((¬ r_10 = (gA M_9 52 a1) → (Q M_9 (0 : Int32))) ∧ (r_10 = (gA M_9 52 a1) → (Q M_9 (1 : Int32))))))))))))))))))))
set_option maxHeartbeats 4000000 in
set_option maxRecDepth 100000 in
theorem kX8_isStillThere {l : Launch} {D : va_G} {κ : Nat → ClassId} {η : Nat → Nat} {σ : (Nat → Nat) × (Nat → Nat)} {n : Nat} {M : Sg} {a1 : Nat} {Q : Sg → Int32 → Prop} (h : wX8_isStillThere n M a1 Q) : Ki (cN σ) D (Ky κ) (cw κ η n) l yX8_isStillThere wsX8_isStillThere rmX8_isStillThere [.ref (η 0), .ref (η (49 + a1))] M Q := by
  refine ofW_g (Qc := fun A => Qi D (Ky κ) (cw κ η n) A Q) (cc := cX8_isStillThere) (maxL := 4) (ret := (some .boolean)) (by decide) rfl (Nat.le_of_ble_eq_true rfl) ?_
  intro p e s m args below meth c A ls X hr hlk hw hl
  have hl : lv_has ls 4 [(0, .ref (η 0)), (1, .ref (η (49 + a1)))] := hl
  refine lv_aload_n X.1 X.2.1 dX8_isStillThere_0 rfl (lv_at hl 1 rfl) ?_
  obtain ⟨hj_, h⟩ := h
  refine r_gf X inX8_isStillThere_X1 hw (49 + a1) (cw_lrn hj_) rfl 9 (by decide) (X.2.2.2.2 (.fieldLink RX8 143 "TestHall$Learner" "slot" "I") (by decide +kernel)) rfl rfl dX8_isStillThere_1 ?_
  refine r_Si (As := [.int (gA M 59 a1)]) (rest := []) X cN_ok (kX8_dayOf h) (va_cwS 1 X.2.2.2.2 gX8_isStillThere_X8_dayOf rfl rfl rfl (by decide +kernel) ⟨Nat.le_of_ble_eq_true rfl, Nat.le_of_ble_eq_true rfl⟩) hw rfl hl.1 rfl (Nat.le_of_ble_eq_true rfl) dX8_isStillThere_4 (fun r_2 M_1 H locs h hw => ?_)
  refine lv_istore_n (lv' := [(2, .int r_2), (0, .ref (η 0)), (1, .ref (η (49 + a1)))]) X.1 X.2.1 dX8_isStillThere_7 rfl hl (by decide) rfl (fun ls hl => ?_)
  refine lv_aload_n X.1 X.2.1 dX8_isStillThere_8 rfl (lv_at hl 2 rfl) ?_
  obtain ⟨hj_, h⟩ := h
  refine r_gf X inX8_isStillThere_X1 hw (49 + a1) (cw_lrn hj_) rfl 9 (by decide) (X.2.2.2.2 (.fieldLink RX8 143 "TestHall$Learner" "slot" "I") (by decide +kernel)) rfl rfl dX8_isStillThere_9 ?_
  refine r_Si (As := [.int (gA M_1 59 a1)]) (rest := []) X cN_ok (kX8_examinerOf h) (va_cwS 1 X.2.2.2.2 gX8_isStillThere_X8_examinerOf rfl rfl rfl (by decide +kernel) ⟨Nat.le_of_ble_eq_true rfl, Nat.le_of_ble_eq_true rfl⟩) hw rfl hl.1 rfl (Nat.le_of_ble_eq_true rfl) dX8_isStillThere_12 (fun r_4 M_3 H locs h hw => ?_)
  refine lv_istore_n (lv' := [(3, .int r_4), (2, .int r_2), (0, .ref (η 0)), (1, .ref (η (49 + a1)))]) X.1 X.2.1 dX8_isStillThere_15 rfl hl (by decide) rfl (fun ls hl => ?_)
  refine lv_aload_n X.1 X.2.1 dX8_isStillThere_16 rfl (lv_at hl 2 rfl) ?_
  refine r_gf X inX8_isStillThere_X8 hw 0 rfl rfl 0 (by decide) (X.2.2.2.2 (.fieldLink RX8 12 "TestHall" "calendar" "LTestHall$Calendar;") (by decide +kernel)) rfl rfl dX8_isStillThere_17 ?_
  refine lv_iload_n X.1 X.2.1 dX8_isStillThere_20 rfl (lv_at hl 1 rfl) ?_
  refine lv_aload_n X.1 X.2.1 dX8_isStillThere_21 rfl (lv_at hl 3 rfl) ?_
  obtain ⟨hj_, h⟩ := h
  refine r_gf X inX8_isStillThere_X1 hw (49 + a1) (cw_lrn hj_) rfl 9 (by decide) (X.2.2.2.2 (.fieldLink RX8 143 "TestHall$Learner" "slot" "I") (by decide +kernel)) rfl rfl dX8_isStillThere_22 ?_
  refine r_Si (As := [.int (gA M_3 59 a1)]) (rest := [.int r_2, .ref (η 1)]) X cN_ok (kX8_hourOf h) (va_cwS 1 X.2.2.2.2 gX8_isStillThere_X8_hourOf rfl rfl rfl (by decide +kernel) ⟨Nat.le_of_ble_eq_true rfl, Nat.le_of_ble_eq_true rfl⟩) hw rfl hl.1 rfl (Nat.le_of_ble_eq_true rfl) dX8_isStillThere_25 (fun r_6 M_5 H locs h hw => ?_)
  refine lv_iload_n X.1 X.2.1 dX8_isStillThere_28 rfl (lv_at hl 0 rfl) ?_
  refine r_Vi (As := [.int r_2, .int r_6, .int r_4]) (rest := []) X cN_ok (kX0_hasHour h) (cwV 3 X.2.2.2.2 gX8_isStillThere_X0_hasHour rfl rfl rfl (by decide +kernel) ⟨Nat.le_of_ble_eq_true rfl, Nat.le_of_ble_eq_true rfl⟩) hw 1 0 rfl rfl rfl hl.1 rfl (Nat.le_of_ble_eq_true rfl) dX8_isStillThere_29 (fun r_8 M_7 H locs h hw => ?_)
  obtain ⟨ht_, hf_⟩ := h
  refine lv_if_eq (tgt := 55) X.1 X.2.1 dX8_isStillThere_32 (by decide) (fun c_ => ?_) (fun c_ => ?_)
  · have h := ht_ c_
    refine lv_iconst (v := (0 : Int32)) X.1 X.2.1 dX8_isStillThere_55 (by decide) ?_
    exact r_zret X hr hlk hw rfl h dX8_isStillThere_56
  · have h := hf_ c_
    refine lv_aload_n X.1 X.2.1 dX8_isStillThere_35 rfl (lv_at hl 2 rfl) ?_
    refine r_gf X inX8_isStillThere_X8 hw 0 rfl rfl 0 (by decide) (X.2.2.2.2 (.fieldLink RX8 12 "TestHall" "calendar" "LTestHall$Calendar;") (by decide +kernel)) rfl rfl dX8_isStillThere_36 ?_
    refine lv_iload_n X.1 X.2.1 dX8_isStillThere_39 rfl (lv_at hl 0 rfl) ?_
    refine lv_iload_n X.1 X.2.1 dX8_isStillThere_40 rfl (lv_at hl 1 rfl) ?_
    refine r_Vi (As := [.int r_4, .int r_2]) (rest := []) X cN_ok (kX0_townOf h) (cwV 2 X.2.2.2.2 gX8_isStillThere_X0_townOf rfl rfl rfl (by decide +kernel) ⟨Nat.le_of_ble_eq_true rfl, Nat.le_of_ble_eq_true rfl⟩) hw 1 0 rfl rfl rfl hl.1 rfl (Nat.le_of_ble_eq_true rfl) dX8_isStillThere_41 (fun r_10 M_9 H locs h hw => ?_)
    refine lv_aload_n X.1 X.2.1 dX8_isStillThere_44 rfl (lv_at hl 3 rfl) ?_
    obtain ⟨hj_, h⟩ := h
    refine r_gf X inX8_isStillThere_X1 hw (49 + a1) (cw_lrn hj_) rfl 2 (by decide) (X.2.2.2.2 (.fieldLink RX8 97 "TestHall$Learner" "town" "I") (by decide +kernel)) rfl rfl dX8_isStillThere_45 ?_
    obtain ⟨ht_, hf_⟩ := h
    refine lv_icmp_ne (tgt := 55) X.1 X.2.1 dX8_isStillThere_48 (by decide) (fun c_ => ?_) (fun c_ => ?_)
    · have h := ht_ c_
      refine lv_iconst (v := (0 : Int32)) X.1 X.2.1 dX8_isStillThere_55 (by decide) ?_
      exact r_zret X hr hlk hw rfl h dX8_isStillThere_56
    · have h := hf_ c_
      refine lv_iconst (v := (1 : Int32)) X.1 X.2.1 dX8_isStillThere_51 (by decide) ?_
      refine lv_goto (tgt := 56) X.1 X.2.1 dX8_isStillThere_52 (by decide) ?_
      exact r_zret X hr hlk hw rfl h dX8_isStillThere_56

theorem inX8_release_X1 : ∀ w ∈ wsX10, w ∈ wsX8_release := fun w h => List.mem_cons_of_mem _ (List.mem_append_left _ (List.mem_append_right _ h))
theorem inX8_release_X8 : ∀ w ∈ wsX80, w ∈ wsX8_release := fun w h => List.mem_cons_of_mem _ (List.mem_append_left _ (List.mem_append_left _ (List.mem_append_right _ h)))
abbrev rmX8_release : Room := { frames := 2, cells := 0, slots := 0, locals := 43 }
def wX8_release (n : Nat) (M : Sg) (a1 : Nat) (Q : Sg → Prop) : Prop := (a1 < n ∧ (wX0_setBooked n M (gA M 59 a1) (-1 : Int32) (fun M_1 => (a1 < n ∧ (∀ (M_3 : Sg), M_3 = sA M_1 59 a1 (-1 : Int32) → (a1 < n ∧ (∀ (M_4 : Sg), M_4 = sA M_3 58 a1 (0 : Int32) → (Q M_4))))))))
set_option maxHeartbeats 4000000 in
set_option maxRecDepth 100000 in
theorem kX8_release {l : Launch} {D : va_G} {κ : Nat → ClassId} {η : Nat → Nat} {σ : (Nat → Nat) × (Nat → Nat)} {n : Nat} {M : Sg} {a1 : Nat} {Q : Sg → Prop} (h : wX8_release n M a1 Q) : Kv (cN σ) D (Ky κ) (cw κ η n) l yX8_release wsX8_release rmX8_release [.ref (η 0), .ref (η (49 + a1))] M Q := by
  refine ofW_g (Qc := fun A => Qv D (Ky κ) (cw κ η n) A Q) (cc := cX8_release) (maxL := 2) (ret := none) (by decide) rfl (Nat.le_of_ble_eq_true rfl) ?_
  intro p e s m args below meth c A ls X hr hlk hw hl
  have hl : lv_has ls 2 [(0, .ref (η 0)), (1, .ref (η (49 + a1)))] := hl
  refine lv_aload_n X.1 X.2.1 dX8_release_0 rfl (lv_at hl 0 rfl) ?_
  refine r_gf X inX8_release_X8 hw 0 rfl rfl 0 (by decide) (X.2.2.2.2 (.fieldLink RX8 12 "TestHall" "calendar" "LTestHall$Calendar;") (by decide +kernel)) rfl rfl dX8_release_1 ?_
  refine lv_aload_n X.1 X.2.1 dX8_release_4 rfl (lv_at hl 1 rfl) ?_
  obtain ⟨hj_, h⟩ := h
  refine r_gf X inX8_release_X1 hw (49 + a1) (cw_lrn hj_) rfl 9 (by decide) (X.2.2.2.2 (.fieldLink RX8 143 "TestHall$Learner" "slot" "I") (by decide +kernel)) rfl rfl dX8_release_5 ?_
  refine lv_iconst (v := (-1 : Int32)) X.1 X.2.1 dX8_release_8 (by decide) ?_
  refine r_Vv (As := [.int (gA M 59 a1), .int (-1 : Int32)]) (rest := []) X cN_ok (kX0_setBooked h) (cwV 2 X.2.2.2.2 gX8_release_X0_setBooked rfl rfl rfl (by decide +kernel) ⟨Nat.le_of_ble_eq_true rfl, Nat.le_of_ble_eq_true rfl⟩) hw 1 0 rfl rfl rfl hl.1 rfl (Nat.le_of_ble_eq_true rfl) dX8_release_9 (fun M_1 H locs h hw => ?_)
  refine lv_aload_n X.1 X.2.1 dX8_release_12 rfl (lv_at hl 1 rfl) ?_
  refine lv_iconst (v := (-1 : Int32)) X.1 X.2.1 dX8_release_13 (by decide) ?_
  obtain ⟨hj_, h⟩ := h
  refine r_pf (ty := .int) (w' := cw κ η n (sA M_1 59 a1 (-1 : Int32))) X inX8_release_X1 tyX1_ok nmX1 hw (49 + a1) (cw_lrn hj_) rfl 9 (by decide) (X.2.2.2.2 (.fieldLink RX8 143 "TestHall$Learner" "slot" "I") (by decide +kernel)) rfl rfl (by decide +kernel) rfl rfl (Nat.le_of_ble_eq_true rfl) (cw_lset9 hj_) dX8_release_14 (fun H locs hw => ?_)
  obtain ⟨M_3, eM_3⟩ : ∃ y : Sg, y = sA M_1 59 a1 (-1 : Int32) := ⟨_, rfl⟩
  rw [← eM_3] at hw
  have h := h M_3 eM_3
  refine lv_aload_n X.1 X.2.1 dX8_release_17 rfl (lv_at hl 1 rfl) ?_
  refine lv_iconst (v := (0 : Int32)) X.1 X.2.1 dX8_release_18 (by decide) ?_
  obtain ⟨hj_, h⟩ := h
  refine r_pf (ty := .int) (w' := cw κ η n (sA M_3 58 a1 (0 : Int32))) X inX8_release_X1 tyX1_ok nmX1 hw (49 + a1) (cw_lrn hj_) rfl 8 (by decide) (X.2.2.2.2 (.fieldLink RX8 140 "TestHall$Learner" "state" "I") (by decide +kernel)) rfl rfl (by decide +kernel) rfl rfl (Nat.le_of_ble_eq_true rfl) (cw_lset8 hj_) dX8_release_19 (fun H locs hw => ?_)
  obtain ⟨M_4, eM_4⟩ : ∃ y : Sg, y = sA M_3 58 a1 (0 : Int32) := ⟨_, rfl⟩
  rw [← eM_4] at hw
  have h := h M_4 eM_4
  exact r_vret X hr hlk hw h dX8_release_22

theorem inX8_releaseMisplaced_X1 : ∀ w ∈ wsX10, w ∈ wsX8_releaseMisplaced := fun w h => List.mem_cons_of_mem _ (List.mem_append_left _ (List.mem_append_right _ h))
theorem inX8_releaseMisplaced_X8 : ∀ w ∈ wsX80, w ∈ wsX8_releaseMisplaced := fun w h => List.mem_cons_of_mem _ (List.mem_append_left _ (List.mem_append_left _ (List.mem_append_right _ h)))
abbrev rmX8_releaseMisplaced : Room := { frames := 3, cells := 0, slots := 0, locals := 70 }
def vX8_releaseMisplaced_59 (n : Nat) (K4 : Sg → Int32 → Int32 → Int32 → Prop) (Q : Sg → Int32 → Prop) (M : Sg) (x1 : Int32) (x2 : Int32) (x3 : Int32) : Prop := (∀ (x_1 : Int32), x_1 = x3 + (1 : Int32) → (K4 M x1 x2 x_1))
set_option maxHeartbeats 4000000 in
set_option maxRecDepth 100000 in
theorem bX8_releaseMisplaced_59 {p : Program} {l : Launch} {e : Env} {s : State} {m : MethodId} {args : Array Value} {below : List Frame} {meth : Method} {c : Code} {D : va_G} {κ : Nat → ClassId} {η : Nat → Nat} {σ : (Nat → Nat) × (Nat → Nat)} {A : Nat → Prop} {n : Nat} {Q : Sg → Int32 → Prop} {K4 : Sg → Int32 → Int32 → Int32 → Prop} (X : CallFix p m c cX8_releaseMisplaced 5 s args wsX8_releaseMisplaced RX8) (hr : meth.sig.returnType = (some .int)) (hlk : meth.locks = false) (hK4 : ∀ (M : Sg) (x1 : Int32) (x2 : Int32) (x3 : Int32) (H : Heap) (locs : List Loc) (ls : Array Slot), K4 M x1 x2 x3 → Wd (cN σ) D (Ky κ) A s (cw κ η n M) H locs → lv_has ls 5 [(0, .ref (η 0)), (1, .int x1), (2, .int x2), (3, .int x3)] → W p l e rmX8_releaseMisplaced s m args below meth c H locs 0 0 (MQ below (Qi D (Ky κ) (cw κ η n) A Q) args s 0 0 A) (F0 m 4 ls [])) : ∀ (M : Sg) (x1 : Int32) (x2 : Int32) (x3 : Int32) (H : Heap) (locs : List Loc) (ls : Array Slot), vX8_releaseMisplaced_59 n K4 Q M x1 x2 x3 → Wd (cN σ) D (Ky κ) A s (cw κ η n M) H locs → lv_has ls 5 [(0, .ref (η 0)), (1, .int x1), (2, .int x2), (3, .int x3)] → W p l e rmX8_releaseMisplaced s m args below meth c H locs 0 0 (MQ below (Qi D (Ky κ) (cw κ η n) A Q) args s 0 0 A) (F0 m 59 ls []) := by
  intro M x1 x2 x3 H locs ls h hw hl
  obtain ⟨x_1, ex_1⟩ : ∃ y : Int32, y = x3 + (1 : Int32) := ⟨_, rfl⟩
  have h := h x_1 ex_1
  refine lv_iinc (v := x_1) (lv' := [(3, .int x_1), (0, .ref (η 0)), (1, .int x1), (2, .int x2)]) X.1 X.2.1 dX8_releaseMisplaced_59 hl (k := 3) rfl (by rw [ex_1]; rfl) (by decide) rfl (fun ls hl => ?_)
  refine lv_goto (tgt := 4) X.1 X.2.1 dX8_releaseMisplaced_62 (by decide) ?_
  exact hK4 M x1 x2 x_1 _ _ _ h hw (lv_sub hl [1, 2, 3, 0] rfl)
def vX8_releaseMisplaced_4 (n : Nat) (Q : Sg → Int32 → Prop) : Nat → Sg → Int32 → Int32 → Int32 → Prop
  | 0, _, _, _, _ => False
  | f4_ + 1, M, x1, x2, x3 => (((gI M 23) ≤ x3 → (Q M x2)) ∧ (¬ (gI M 23) ≤ x3 → ((vp_in x3 60 ∧ x3.toNatClampNeg < n) ∧ ((x3.toNatClampNeg) < n ∧ ((¬ (gA M 58 (x3.toNatClampNeg)) = (1 : Int32) → (vX8_releaseMisplaced_59 n (vX8_releaseMisplaced_4 n Q f4_) Q M x1 x2 x3)) ∧ ((gA M 58 (x3.toNatClampNeg)) = (1 : Int32) → ((x3.toNatClampNeg) < n ∧ (wX8_examinerOf n M (gA M 59 (x3.toNatClampNeg)) (fun M_1 r_2 => ((¬ r_2 = x1 → (vX8_releaseMisplaced_59 n (vX8_releaseMisplaced_4 n Q f4_) Q M_1 x1 x2 x3)) ∧ (r_2 = x1 → (wX8_isStillThere n M_1 (x3.toNatClampNeg) (fun M_3 r_4 => ((¬ r_4 = 0 → (vX8_releaseMisplaced_59 n (vX8_releaseMisplaced_4 n Q f4_) Q M_3 x1 x2 x3)) ∧ (r_4 = 0 → (wX8_release n M_3 (x3.toNatClampNeg) (fun M_5 => (∀ (x_7 : Int32), x_7 = x2 + (1 : Int32) → (vX8_releaseMisplaced_59 n (vX8_releaseMisplaced_4 n Q f4_) Q M_5 x1 x_7 x3)))))))))))))))))))
set_option maxHeartbeats 4000000 in
set_option maxRecDepth 100000 in
theorem bX8_releaseMisplaced_4 {p : Program} {l : Launch} {e : Env} {s : State} {m : MethodId} {args : Array Value} {below : List Frame} {meth : Method} {c : Code} {D : va_G} {κ : Nat → ClassId} {η : Nat → Nat} {σ : (Nat → Nat) × (Nat → Nat)} {A : Nat → Prop} {n : Nat} {Q : Sg → Int32 → Prop} (X : CallFix p m c cX8_releaseMisplaced 5 s args wsX8_releaseMisplaced RX8) (hr : meth.sig.returnType = (some .int)) (hlk : meth.locks = false) : ∀ (f_ : Nat) (M : Sg) (x1 : Int32) (x2 : Int32) (x3 : Int32) (H : Heap) (locs : List Loc) (ls : Array Slot), vX8_releaseMisplaced_4 n Q f_ M x1 x2 x3 → Wd (cN σ) D (Ky κ) A s (cw κ η n M) H locs → lv_has ls 5 [(0, .ref (η 0)), (1, .int x1), (2, .int x2), (3, .int x3)] → W p l e rmX8_releaseMisplaced s m args below meth c H locs 0 0 (MQ below (Qi D (Ky κ) (cw κ η n) A Q) args s 0 0 A) (F0 m 4 ls []) := by
  intro f_
  induction f_ with
  | zero => intro M x1 x2 x3 H locs ls h; exact h.elim
  | succ f_ hK4 =>
    intro M x1 x2 x3 H locs ls h hw hl
    refine lv_iload_n X.1 X.2.1 dX8_releaseMisplaced_4 rfl (lv_at hl 3 rfl) ?_
    refine lv_aload_n X.1 X.2.1 dX8_releaseMisplaced_5 rfl (lv_at hl 0 rfl) ?_
    refine r_gf X inX8_releaseMisplaced_X8 hw 0 rfl rfl 9 (by decide) (X.2.2.2.2 (.fieldLink RX8 64 "TestHall" "learnerCount" "I") (by decide +kernel)) rfl rfl dX8_releaseMisplaced_6 ?_
    obtain ⟨ht_, hf_⟩ := h
    refine lv_icmp_ge (tgt := 65) X.1 X.2.1 dX8_releaseMisplaced_9 (by decide) (fun c_ => ?_) (fun c_ => ?_)
    · have h := ht_ c_
      refine lv_iload_n X.1 X.2.1 dX8_releaseMisplaced_65 rfl (lv_at hl 2 rfl) ?_
      exact r_ret X hr hlk hw h dX8_releaseMisplaced_66
    · have h := hf_ c_
      refine lv_aload_n X.1 X.2.1 dX8_releaseMisplaced_12 rfl (lv_at hl 0 rfl) ?_
      refine r_gf X inX8_releaseMisplaced_X8 hw 0 rfl rfl 1 (by decide) (X.2.2.2.2 (.fieldLink RX8 18 "TestHall" "learners" "[LTestHall$Learner;") (by decide +kernel)) rfl rfl dX8_releaseMisplaced_13 ?_
      refine lv_iload_n X.1 X.2.1 dX8_releaseMisplaced_16 rfl (lv_at hl 3 rfl) ?_
      obtain ⟨hi_, h⟩ := h
      refine r_lrn X hw hi_.1 hi_.2 dX8_releaseMisplaced_17 ?_
      refine lv_astore (lv' := [(4, .ref (η (49 + (x3.toNatClampNeg)))), (0, .ref (η 0)), (1, .int x1), (2, .int x2), (3, .int x3)]) X.1 X.2.1 dX8_releaseMisplaced_18 hl (by decide) rfl (fun ls hl => ?_)
      refine lv_aload X.1 X.2.1 dX8_releaseMisplaced_20 (lv_at hl 0 rfl) ?_
      obtain ⟨hj_, h⟩ := h
      refine r_gf X inX8_releaseMisplaced_X1 hw (49 + (x3.toNatClampNeg)) (cw_lrn hj_) rfl 8 (by decide) (X.2.2.2.2 (.fieldLink RX8 140 "TestHall$Learner" "state" "I") (by decide +kernel)) rfl rfl dX8_releaseMisplaced_22 ?_
      refine lv_iconst (v := (1 : Int32)) X.1 X.2.1 dX8_releaseMisplaced_25 (by decide) ?_
      obtain ⟨ht_, hf_⟩ := h
      refine lv_icmp_ne (tgt := 59) X.1 X.2.1 dX8_releaseMisplaced_26 (by decide) (fun c_ => ?_) (fun c_ => ?_)
      · have h := ht_ c_
        exact bX8_releaseMisplaced_59 X hr hlk hK4 M x1 x2 x3 _ _ _ h hw (lv_sub hl [1, 2, 3, 4] rfl)
      · have h := hf_ c_
        refine lv_aload X.1 X.2.1 dX8_releaseMisplaced_29 (lv_at hl 0 rfl) ?_
        obtain ⟨hj_, h⟩ := h
        refine r_gf X inX8_releaseMisplaced_X1 hw (49 + (x3.toNatClampNeg)) (cw_lrn hj_) rfl 9 (by decide) (X.2.2.2.2 (.fieldLink RX8 143 "TestHall$Learner" "slot" "I") (by decide +kernel)) rfl rfl dX8_releaseMisplaced_31 ?_
        refine r_Si (As := [.int (gA M 59 (x3.toNatClampNeg))]) (rest := []) X cN_ok (kX8_examinerOf h) (va_cwS 1 X.2.2.2.2 gX8_releaseMisplaced_X8_examinerOf rfl rfl rfl (by decide +kernel) ⟨Nat.le_of_ble_eq_true rfl, Nat.le_of_ble_eq_true rfl⟩) hw rfl hl.1 rfl (Nat.le_of_ble_eq_true rfl) dX8_releaseMisplaced_34 (fun r_2 M_1 H locs h hw => ?_)
        refine lv_iload_n X.1 X.2.1 dX8_releaseMisplaced_37 rfl (lv_at hl 2 rfl) ?_
        obtain ⟨ht_, hf_⟩ := h
        refine lv_icmp_ne (tgt := 59) X.1 X.2.1 dX8_releaseMisplaced_38 (by decide) (fun c_ => ?_) (fun c_ => ?_)
        · have h := ht_ c_
          exact bX8_releaseMisplaced_59 X hr hlk hK4 M_1 x1 x2 x3 _ _ _ h hw (lv_sub hl [1, 2, 3, 4] rfl)
        · have h := hf_ c_
          refine lv_aload_n X.1 X.2.1 dX8_releaseMisplaced_41 rfl (lv_at hl 1 rfl) ?_
          refine lv_aload X.1 X.2.1 dX8_releaseMisplaced_42 (lv_at hl 0 rfl) ?_
          refine r_Vi (As := [.ref (η (49 + (x3.toNatClampNeg)))]) (rest := []) X cN_ok (kX8_isStillThere h) (cwV 1 X.2.2.2.2 gX8_releaseMisplaced_X8_isStillThere rfl rfl rfl (by decide +kernel) ⟨Nat.le_of_ble_eq_true rfl, Nat.le_of_ble_eq_true rfl⟩) hw 0 7 rfl rfl rfl hl.1 rfl (Nat.le_of_ble_eq_true rfl) dX8_releaseMisplaced_44 (fun r_4 M_3 H locs h hw => ?_)
          obtain ⟨ht_, hf_⟩ := h
          refine lv_if_ne (tgt := 59) X.1 X.2.1 dX8_releaseMisplaced_47 (by decide) (fun c_ => ?_) (fun c_ => ?_)
          · have h := ht_ c_
            exact bX8_releaseMisplaced_59 X hr hlk hK4 M_3 x1 x2 x3 _ _ _ h hw (lv_sub hl [1, 2, 3, 4] rfl)
          · have h := hf_ c_
            refine lv_aload_n X.1 X.2.1 dX8_releaseMisplaced_50 rfl (lv_at hl 1 rfl) ?_
            refine lv_aload X.1 X.2.1 dX8_releaseMisplaced_51 (lv_at hl 0 rfl) ?_
            refine r_Vv (As := [.ref (η (49 + (x3.toNatClampNeg)))]) (rest := []) X cN_ok (kX8_release h) (cwV 1 X.2.2.2.2 gX8_releaseMisplaced_X8_release rfl rfl rfl (by decide +kernel) ⟨Nat.le_of_ble_eq_true rfl, Nat.le_of_ble_eq_true rfl⟩) hw 0 7 rfl rfl rfl hl.1 rfl (Nat.le_of_ble_eq_true rfl) dX8_releaseMisplaced_53 (fun M_5 H locs h hw => ?_)
            obtain ⟨x_7, ex_7⟩ : ∃ y : Int32, y = x2 + (1 : Int32) := ⟨_, rfl⟩
            have h := h x_7 ex_7
            refine lv_iinc (v := x_7) (lv' := [(2, .int x_7), (4, .ref (η (49 + (x3.toNatClampNeg)))), (0, .ref (η 0)), (1, .int x1), (3, .int x3)]) X.1 X.2.1 dX8_releaseMisplaced_56 hl (k := 3) rfl (by rw [ex_7]; rfl) (by decide) rfl (fun ls hl => ?_)
            exact bX8_releaseMisplaced_59 X hr hlk hK4 M_5 x1 x_7 x3 _ _ _ h hw (lv_sub hl [2, 3, 0, 4] rfl)
def wX8_releaseMisplaced (n : Nat) (M : Sg) (a1 : Int32) (Q : Sg → Int32 → Prop) : Prop := (∃ g4_ : Nat, vX8_releaseMisplaced_4 n Q g4_ M a1 (0 : Int32) (0 : Int32))
set_option maxHeartbeats 4000000 in
set_option maxRecDepth 100000 in
theorem kX8_releaseMisplaced {l : Launch} {D : va_G} {κ : Nat → ClassId} {η : Nat → Nat} {σ : (Nat → Nat) × (Nat → Nat)} {n : Nat} {M : Sg} {a1 : Int32} {Q : Sg → Int32 → Prop} (h : wX8_releaseMisplaced n M a1 Q) : Ki (cN σ) D (Ky κ) (cw κ η n) l yX8_releaseMisplaced wsX8_releaseMisplaced rmX8_releaseMisplaced [.ref (η 0), .int a1] M Q := by
  refine ofW_g (Qc := fun A => Qi D (Ky κ) (cw κ η n) A Q) (cc := cX8_releaseMisplaced) (maxL := 5) (ret := (some .int)) (by decide) rfl (Nat.le_of_ble_eq_true rfl) ?_
  intro p e s m args below meth c A ls X hr hlk hw hl
  have hl : lv_has ls 5 [(0, .ref (η 0)), (1, .int a1)] := hl
  refine lv_iconst (v := (0 : Int32)) X.1 X.2.1 dX8_releaseMisplaced_0 (by decide) ?_
  refine lv_istore_n (lv' := [(2, .int (0 : Int32)), (0, .ref (η 0)), (1, .int a1)]) X.1 X.2.1 dX8_releaseMisplaced_1 rfl hl (by decide) rfl (fun ls hl => ?_)
  refine lv_iconst (v := (0 : Int32)) X.1 X.2.1 dX8_releaseMisplaced_2 (by decide) ?_
  refine lv_istore_n (lv' := [(3, .int (0 : Int32)), (2, .int (0 : Int32)), (0, .ref (η 0)), (1, .int a1)]) X.1 X.2.1 dX8_releaseMisplaced_3 rfl hl (by decide) rfl (fun ls hl => ?_)
  obtain ⟨f_, h⟩ := h
  exact bX8_releaseMisplaced_4 X hr hlk f_ M a1 (0 : Int32) (0 : Int32) _ _ _ h hw (lv_sub hl [2, 3, 1, 0] rfl)

theorem inX8_place_X0 : ∀ w ∈ wsX00, w ∈ wsX8_place := fun w h => List.mem_cons_of_mem _ (List.mem_append_left _ (List.mem_append_right _ h))
theorem inX8_place_X8 : ∀ w ∈ wsX80, w ∈ wsX8_place := fun w h => List.mem_cons_of_mem _ (List.mem_append_left _ (List.mem_append_left _ (List.mem_append_right _ h)))
abbrev rmX8_place : Room := { frames := 4, cells := 0, slots := 0, locals := 94 }
def vX8_place_61 (n : Nat) (Q : Sg → Int32 → Prop) : Nat → Sg → Int32 → Int32 → Int32 → Int32 → Prop
  | 0, _, _, _, _, _ => False
  | f61_ + 1, M, x1, x2, x4, x6 => ((x4 < x6 → (wX8_releaseMisplaced n M x1 (fun M_1 r_2 => (Q M_1 r_2)))) ∧ (¬ x4 < x6 → (wX0_setTown n M x1 x6 x2 (fun M_3 => (∀ (x_5 : Int32), x_5 = x6 + (1 : Int32) → (vX8_place_61 n Q f61_ M_3 x1 x2 x4 x_5))))))
set_option maxHeartbeats 4000000 in
set_option maxRecDepth 100000 in
theorem bX8_place_61 {p : Program} {l : Launch} {e : Env} {s : State} {m : MethodId} {args : Array Value} {below : List Frame} {meth : Method} {c : Code} {D : va_G} {κ : Nat → ClassId} {η : Nat → Nat} {σ : (Nat → Nat) × (Nat → Nat)} {A : Nat → Prop} {n : Nat} {Q : Sg → Int32 → Prop} (X : CallFix p m c cX8_place 7 s args wsX8_place RX8) (hr : meth.sig.returnType = (some .int)) (hlk : meth.locks = false) : ∀ (f_ : Nat) (M : Sg) (x1 : Int32) (x2 : Int32) (x4 : Int32) (x6 : Int32) (H : Heap) (locs : List Loc) (ls : Array Slot), vX8_place_61 n Q f_ M x1 x2 x4 x6 → Wd (cN σ) D (Ky κ) A s (cw κ η n M) H locs → lv_has ls 7 [(0, .ref (η 0)), (1, .int x1), (2, .int x2), (4, .int x4), (6, .int x6)] → W p l e rmX8_place s m args below meth c H locs 0 0 (MQ below (Qi D (Ky κ) (cw κ η n) A Q) args s 0 0 A) (F0 m 61 ls []) := by
  intro f_
  induction f_ with
  | zero => intro M x1 x2 x4 x6 H locs ls h; exact h.elim
  | succ f_ hK61 =>
    intro M x1 x2 x4 x6 H locs ls h hw hl
    refine lv_iload X.1 X.2.1 dX8_place_61 (lv_at hl 4 rfl) ?_
    refine lv_iload X.1 X.2.1 dX8_place_63 (lv_at hl 3 rfl) ?_
    obtain ⟨ht_, hf_⟩ := h
    refine lv_icmp_gt (tgt := 85) X.1 X.2.1 dX8_place_65 (by decide) (fun c_ => ?_) (fun c_ => ?_)
    · have h := ht_ c_
      refine lv_aload_n X.1 X.2.1 dX8_place_85 rfl (lv_at hl 0 rfl) ?_
      refine lv_iload_n X.1 X.2.1 dX8_place_86 rfl (lv_at hl 1 rfl) ?_
      refine r_Vi (As := [.int x1]) (rest := []) X cN_ok (kX8_releaseMisplaced h) (cwV 1 X.2.2.2.2 gX8_place_X8_releaseMisplaced rfl rfl rfl (by decide +kernel) ⟨Nat.le_of_ble_eq_true rfl, Nat.le_of_ble_eq_true rfl⟩) hw 0 7 rfl rfl rfl hl.1 rfl (Nat.le_of_ble_eq_true rfl) dX8_place_87 (fun r_2 M_1 H locs h hw => ?_)
      exact r_ret X hr hlk hw h dX8_place_90
    · have h := hf_ c_
      refine lv_aload_n X.1 X.2.1 dX8_place_68 rfl (lv_at hl 0 rfl) ?_
      refine r_gf X inX8_place_X8 hw 0 rfl rfl 0 (by decide) (X.2.2.2.2 (.fieldLink RX8 12 "TestHall" "calendar" "LTestHall$Calendar;") (by decide +kernel)) rfl rfl dX8_place_69 ?_
      refine lv_iload_n X.1 X.2.1 dX8_place_72 rfl (lv_at hl 1 rfl) ?_
      refine lv_iload X.1 X.2.1 dX8_place_73 (lv_at hl 4 rfl) ?_
      refine lv_iload_n X.1 X.2.1 dX8_place_75 rfl (lv_at hl 2 rfl) ?_
      refine r_Vv (As := [.int x1, .int x6, .int x2]) (rest := []) X cN_ok (kX0_setTown h) (cwV 3 X.2.2.2.2 gX8_place_X0_setTown rfl rfl rfl (by decide +kernel) ⟨Nat.le_of_ble_eq_true rfl, Nat.le_of_ble_eq_true rfl⟩) hw 1 0 rfl rfl rfl hl.1 rfl (Nat.le_of_ble_eq_true rfl) dX8_place_76 (fun M_3 H locs h hw => ?_)
      obtain ⟨x_5, ex_5⟩ : ∃ y : Int32, y = x6 + (1 : Int32) := ⟨_, rfl⟩
      have h := h x_5 ex_5
      refine lv_iinc (v := x_5) (lv' := [(6, .int x_5), (0, .ref (η 0)), (1, .int x1), (2, .int x2), (4, .int x4)]) X.1 X.2.1 dX8_place_79 hl (k := 4) rfl (by rw [ex_5]; rfl) (by decide) rfl (fun ls hl => ?_)
      refine lv_goto (tgt := 61) X.1 X.2.1 dX8_place_82 (by decide) ?_
      exact hK61 M_3 x1 x2 x4 x_5 _ _ _ h hw (lv_sub hl [1, 2, 3, 4, 0] rfl)
def vX8_place_25 (n : Nat) (Q : Sg → Int32 → Prop) (M : Sg) (x1 : Int32) (x2 : Int32) (x3 : Int32) (x4 : Int32) (s0 : Int32) : Prop := ((s0 = 0 → (Q M (-1 : Int32))) ∧ (¬ s0 = 0 → ((x3 ≤ (gI M 1) → (Q M (-1 : Int32))) ∧ (¬ x3 ≤ (gI M 1) → ((x4 < x3 → (Q M (-1 : Int32))) ∧ (¬ x4 < x3 → ((x4 < (60 : Int32) → (∃ g61_ : Nat, vX8_place_61 n Q g61_ M x1 x2 x4 x3)) ∧ (¬ x4 < (60 : Int32) → (Q M (-1 : Int32))))))))))
set_option maxHeartbeats 4000000 in
set_option maxRecDepth 100000 in
theorem bX8_place_25 {p : Program} {l : Launch} {e : Env} {s : State} {m : MethodId} {args : Array Value} {below : List Frame} {meth : Method} {c : Code} {D : va_G} {κ : Nat → ClassId} {η : Nat → Nat} {σ : (Nat → Nat) × (Nat → Nat)} {A : Nat → Prop} {n : Nat} {Q : Sg → Int32 → Prop} (X : CallFix p m c cX8_place 7 s args wsX8_place RX8) (hr : meth.sig.returnType = (some .int)) (hlk : meth.locks = false) : ∀ (M : Sg) (x1 : Int32) (x2 : Int32) (x3 : Int32) (x4 : Int32) (s0 : Int32) (H : Heap) (locs : List Loc) (ls : Array Slot), vX8_place_25 n Q M x1 x2 x3 x4 s0 → Wd (cN σ) D (Ky κ) A s (cw κ η n M) H locs → lv_has ls 7 [(0, .ref (η 0)), (1, .int x1), (2, .int x2), (3, .int x3), (4, .int x4)] → W p l e rmX8_place s m args below meth c H locs 0 0 (MQ below (Qi D (Ky κ) (cw κ η n) A Q) args s 0 0 A) (F0 m 25 ls [.int s0]) := by
  intro M x1 x2 x3 x4 s0 H locs ls h hw hl
  refine lv_istore (lv' := [(5, .int s0), (0, .ref (η 0)), (1, .int x1), (2, .int x2), (3, .int x3), (4, .int x4)]) X.1 X.2.1 dX8_place_25 hl (by decide) rfl (fun ls hl => ?_)
  refine lv_iload X.1 X.2.1 dX8_place_27 (lv_at hl 0 rfl) ?_
  obtain ⟨ht_, hf_⟩ := h
  refine lv_if_eq (tgt := 56) X.1 X.2.1 dX8_place_29 (by decide) (fun c_ => ?_) (fun c_ => ?_)
  · have h := ht_ c_
    refine lv_iconst (v := (-1 : Int32)) X.1 X.2.1 dX8_place_56 (by decide) ?_
    exact r_ret X hr hlk hw h dX8_place_57
  · have h := hf_ c_
    refine lv_iload_n X.1 X.2.1 dX8_place_32 rfl (lv_at hl 4 rfl) ?_
    refine lv_aload_n X.1 X.2.1 dX8_place_33 rfl (lv_at hl 1 rfl) ?_
    refine r_gf X inX8_place_X8 hw 0 rfl rfl 0 (by decide) (X.2.2.2.2 (.fieldLink RX8 12 "TestHall" "calendar" "LTestHall$Calendar;") (by decide +kernel)) rfl rfl dX8_place_34 ?_
    refine r_gf X inX8_place_X0 hw 1 rfl rfl 6 (by decide) (X.2.2.2.2 (.fieldLink RX8 80 "TestHall$Calendar" "now" "I") (by decide +kernel)) rfl rfl dX8_place_37 ?_
    obtain ⟨ht_, hf_⟩ := h
    refine lv_icmp_le (tgt := 56) X.1 X.2.1 dX8_place_40 (by decide) (fun c_ => ?_) (fun c_ => ?_)
    · have h := ht_ c_
      refine lv_iconst (v := (-1 : Int32)) X.1 X.2.1 dX8_place_56 (by decide) ?_
      exact r_ret X hr hlk hw h dX8_place_57
    · have h := hf_ c_
      refine lv_iload_n X.1 X.2.1 dX8_place_43 rfl (lv_at hl 4 rfl) ?_
      refine lv_iload X.1 X.2.1 dX8_place_44 (lv_at hl 5 rfl) ?_
      obtain ⟨ht_, hf_⟩ := h
      refine lv_icmp_gt (tgt := 56) X.1 X.2.1 dX8_place_46 (by decide) (fun c_ => ?_) (fun c_ => ?_)
      · have h := ht_ c_
        refine lv_iconst (v := (-1 : Int32)) X.1 X.2.1 dX8_place_56 (by decide) ?_
        exact r_ret X hr hlk hw h dX8_place_57
      · have h := hf_ c_
        refine lv_iload X.1 X.2.1 dX8_place_49 (lv_at hl 5 rfl) ?_
        refine lv_bipush (v := (60 : Int32)) X.1 X.2.1 dX8_place_51 (by decide) ?_
        obtain ⟨ht_, hf_⟩ := h
        refine lv_icmp_lt (tgt := 58) X.1 X.2.1 dX8_place_53 (by decide) (fun c_ => ?_) (fun c_ => ?_)
        · have h := ht_ c_
          refine lv_iload_n X.1 X.2.1 dX8_place_58 rfl (lv_at hl 4 rfl) ?_
          refine lv_istore (lv' := [(6, .int x3), (5, .int s0), (0, .ref (η 0)), (1, .int x1), (2, .int x2), (3, .int x3), (4, .int x4)]) X.1 X.2.1 dX8_place_59 hl (by decide) rfl (fun ls hl => ?_)
          obtain ⟨f_, h⟩ := h
          exact bX8_place_61 X hr hlk f_ M x1 x2 x4 x3 _ _ _ h hw (lv_sub hl [2, 3, 4, 6, 0] rfl)
        · have h := hf_ c_
          refine lv_iconst (v := (-1 : Int32)) X.1 X.2.1 dX8_place_56 (by decide) ?_
          exact r_ret X hr hlk hw h dX8_place_57
def vX8_place_24 (n : Nat) (Q : Sg → Int32 → Prop) (M : Sg) (x1 : Int32) (x2 : Int32) (x3 : Int32) (x4 : Int32) : Prop := (vX8_place_25 n Q M x1 x2 x3 x4 (0 : Int32))
set_option maxHeartbeats 4000000 in
set_option maxRecDepth 100000 in
theorem bX8_place_24 {p : Program} {l : Launch} {e : Env} {s : State} {m : MethodId} {args : Array Value} {below : List Frame} {meth : Method} {c : Code} {D : va_G} {κ : Nat → ClassId} {η : Nat → Nat} {σ : (Nat → Nat) × (Nat → Nat)} {A : Nat → Prop} {n : Nat} {Q : Sg → Int32 → Prop} (X : CallFix p m c cX8_place 7 s args wsX8_place RX8) (hr : meth.sig.returnType = (some .int)) (hlk : meth.locks = false) : ∀ (M : Sg) (x1 : Int32) (x2 : Int32) (x3 : Int32) (x4 : Int32) (H : Heap) (locs : List Loc) (ls : Array Slot), vX8_place_24 n Q M x1 x2 x3 x4 → Wd (cN σ) D (Ky κ) A s (cw κ η n M) H locs → lv_has ls 7 [(0, .ref (η 0)), (1, .int x1), (2, .int x2), (3, .int x3), (4, .int x4)] → W p l e rmX8_place s m args below meth c H locs 0 0 (MQ below (Qi D (Ky κ) (cw κ η n) A Q) args s 0 0 A) (F0 m 24 ls []) := by
  intro M x1 x2 x3 x4 H locs ls h hw hl
  refine lv_iconst (v := (0 : Int32)) X.1 X.2.1 dX8_place_24 (by decide) ?_
  exact bX8_place_25 X hr hlk M x1 x2 x3 x4 (0 : Int32) _ _ _ h hw (lv_sub hl [0, 1, 2, 3, 4] rfl)
def wX8_place (n : Nat) (M : Sg) (a1 : Int32) (a2 : Int32) (a3 : Int32) (a4 : Int32) (Q : Sg → Int32 → Prop) : Prop := (wX0_isExaminer n M a1 (fun M_1 r_2 => ((r_2 = 0 → (vX8_place_24 n Q M_1 a1 a2 a3 a4)) ∧ (¬ r_2 = 0 → (wX8_isWithin n M_1 a2 (-1 : Int32) (5 : Int32) (fun M_3 r_4 => ((r_4 = 0 → (vX8_place_24 n Q M_3 a1 a2 a3 a4)) ∧ (¬ r_4 = 0 → (vX8_place_25 n Q M_3 a1 a2 a3 a4 (1 : Int32))))))))))
set_option maxHeartbeats 4000000 in
set_option maxRecDepth 100000 in
theorem kX8_place {l : Launch} {D : va_G} {κ : Nat → ClassId} {η : Nat → Nat} {σ : (Nat → Nat) × (Nat → Nat)} {n : Nat} {M : Sg} {a1 : Int32} {a2 : Int32} {a3 : Int32} {a4 : Int32} {Q : Sg → Int32 → Prop} (h : wX8_place n M a1 a2 a3 a4 Q) : Ki (cN σ) D (Ky κ) (cw κ η n) l yX8_place wsX8_place rmX8_place [.ref (η 0), .int a1, .int a2, .int a3, .int a4] M Q := by
  refine ofW_g (Qc := fun A => Qi D (Ky κ) (cw κ η n) A Q) (cc := cX8_place) (maxL := 7) (ret := (some .int)) (by decide) rfl (Nat.le_of_ble_eq_true rfl) ?_
  intro p e s m args below meth c A ls X hr hlk hw hl
  have hl : lv_has ls 7 [(0, .ref (η 0)), (1, .int a1), (2, .int a2), (3, .int a3), (4, .int a4)] := hl
  refine lv_aload_n X.1 X.2.1 dX8_place_0 rfl (lv_at hl 0 rfl) ?_
  refine r_gf X inX8_place_X8 hw 0 rfl rfl 0 (by decide) (X.2.2.2.2 (.fieldLink RX8 12 "TestHall" "calendar" "LTestHall$Calendar;") (by decide +kernel)) rfl rfl dX8_place_1 ?_
  refine lv_iload_n X.1 X.2.1 dX8_place_4 rfl (lv_at hl 1 rfl) ?_
  refine r_Vi (As := [.int a1]) (rest := []) X cN_ok (kX0_isExaminer h) (cwV 1 X.2.2.2.2 gX8_place_X0_isExaminer rfl rfl rfl (by decide +kernel) ⟨Nat.le_of_ble_eq_true rfl, Nat.le_of_ble_eq_true rfl⟩) hw 1 0 rfl rfl rfl hl.1 rfl (Nat.le_of_ble_eq_true rfl) dX8_place_5 (fun r_2 M_1 H locs h hw => ?_)
  obtain ⟨ht_, hf_⟩ := h
  refine lv_if_eq (tgt := 24) X.1 X.2.1 dX8_place_8 (by decide) (fun c_ => ?_) (fun c_ => ?_)
  · have h := ht_ c_
    exact bX8_place_24 X hr hlk M_1 a1 a2 a3 a4 _ _ _ h hw (lv_sub hl [0, 1, 2, 3, 4] rfl)
  · have h := hf_ c_
    refine lv_iload_n X.1 X.2.1 dX8_place_11 rfl (lv_at hl 2 rfl) ?_
    refine lv_iconst (v := (-1 : Int32)) X.1 X.2.1 dX8_place_12 (by decide) ?_
    refine lv_iconst (v := (5 : Int32)) X.1 X.2.1 dX8_place_13 (by decide) ?_
    refine r_Si (As := [.int a2, .int (-1 : Int32), .int (5 : Int32)]) (rest := []) X cN_ok (kX8_isWithin h) (va_cwS 3 X.2.2.2.2 gX8_place_X8_isWithin rfl rfl rfl (by decide +kernel) ⟨Nat.le_of_ble_eq_true rfl, Nat.le_of_ble_eq_true rfl⟩) hw rfl hl.1 rfl (Nat.le_of_ble_eq_true rfl) dX8_place_14 (fun r_4 M_3 H locs h hw => ?_)
    obtain ⟨ht_, hf_⟩ := h
    refine lv_if_eq (tgt := 24) X.1 X.2.1 dX8_place_17 (by decide) (fun c_ => ?_) (fun c_ => ?_)
    · have h := ht_ c_
      exact bX8_place_24 X hr hlk M_3 a1 a2 a3 a4 _ _ _ h hw (lv_sub hl [0, 1, 2, 3, 4] rfl)
    · have h := hf_ c_
      refine lv_iconst (v := (1 : Int32)) X.1 X.2.1 dX8_place_20 (by decide) ?_
      refine lv_goto (tgt := 25) X.1 X.2.1 dX8_place_21 (by decide) ?_
      exact bX8_place_25 X hr hlk M_3 a1 a2 a3 a4 (1 : Int32) _ _ _ h hw (lv_sub hl [0, 1, 2, 3, 4] rfl)

theorem inX8_feed_X4 : ∀ w ∈ wsX40, w ∈ wsX8_feed := fun w h => List.mem_cons_of_mem _ (List.mem_append_right _ h)
theorem inX8_feed_X8 : ∀ w ∈ wsX80, w ∈ wsX8_feed := fun w h => List.mem_cons_of_mem _ (List.mem_append_left _ (List.mem_append_right _ h))
abbrev rmX8_feed : Room := { frames := 2, cells := 0, slots := 0, locals := 47 }
def wX8_feed (n : Nat) (M : Sg) (a1 : Int64) (a3 : Int64) (a5 : Int64) (Q : Sg → Int32 → Prop) : Prop := (wX4_addEight n M a1 (fun M_1 => (wX4_addEight n M_1 a3 (fun M_3 => (wX4_addEight n M_3 a5 (fun M_5 => (Q M_5 (gI M_5 14))))))))
set_option maxHeartbeats 4000000 in
set_option maxRecDepth 100000 in
theorem kX8_feed {l : Launch} {D : va_G} {κ : Nat → ClassId} {η : Nat → Nat} {σ : (Nat → Nat) × (Nat → Nat)} {n : Nat} {M : Sg} {a1 : Int64} {a3 : Int64} {a5 : Int64} {Q : Sg → Int32 → Prop} (h : wX8_feed n M a1 a3 a5 Q) : Ki (cN σ) D (Ky κ) (cw κ η n) l yX8_feed wsX8_feed rmX8_feed [.ref (η 0), .long a1, .long a3, .long a5] M Q := by
  refine ofW_g (Qc := fun A => Qi D (Ky κ) (cw κ η n) A Q) (cc := cX8_feed) (maxL := 7) (ret := (some .int)) (by decide) rfl (Nat.le_of_ble_eq_true rfl) ?_
  intro p e s m args below meth c A ls X hr hlk hw hl
  have hl : lv_has ls 7 [(0, .ref (η 0)), (1, .long a1), (3, .long a3), (5, .long a5)] := hl
  refine lv_aload_n X.1 X.2.1 dX8_feed_0 rfl (lv_at hl 0 rfl) ?_
  refine r_gf X inX8_feed_X8 hw 0 rfl rfl 4 (by decide) (X.2.2.2.2 (.fieldLink RX8 38 "TestHall" "tape" "LTestHall$Tape;") (by decide +kernel)) rfl rfl dX8_feed_1 ?_
  refine lv_lload_n X.1 X.2.1 dX8_feed_4 rfl (lv_at hl 1 rfl) ?_
  refine r_Vv (As := [.long a1]) (rest := []) X cN_ok (kX4_addEight h) (cwV 1 X.2.2.2.2 gX8_feed_X4_addEight rfl rfl rfl (by decide +kernel) ⟨Nat.le_of_ble_eq_true rfl, Nat.le_of_ble_eq_true rfl⟩) hw 3 4 rfl rfl rfl hl.1 rfl (Nat.le_of_ble_eq_true rfl) dX8_feed_5 (fun M_1 H locs h hw => ?_)
  refine lv_aload_n X.1 X.2.1 dX8_feed_8 rfl (lv_at hl 0 rfl) ?_
  refine r_gf X inX8_feed_X8 hw 0 rfl rfl 4 (by decide) (X.2.2.2.2 (.fieldLink RX8 38 "TestHall" "tape" "LTestHall$Tape;") (by decide +kernel)) rfl rfl dX8_feed_9 ?_
  refine lv_lload_n X.1 X.2.1 dX8_feed_12 rfl (lv_at hl 2 rfl) ?_
  refine r_Vv (As := [.long a3]) (rest := []) X cN_ok (kX4_addEight h) (cwV 1 X.2.2.2.2 gX8_feed_X4_addEight rfl rfl rfl (by decide +kernel) ⟨Nat.le_of_ble_eq_true rfl, Nat.le_of_ble_eq_true rfl⟩) hw 3 4 rfl rfl rfl hl.1 rfl (Nat.le_of_ble_eq_true rfl) dX8_feed_13 (fun M_3 H locs h hw => ?_)
  refine lv_aload_n X.1 X.2.1 dX8_feed_16 rfl (lv_at hl 0 rfl) ?_
  refine r_gf X inX8_feed_X8 hw 0 rfl rfl 4 (by decide) (X.2.2.2.2 (.fieldLink RX8 38 "TestHall" "tape" "LTestHall$Tape;") (by decide +kernel)) rfl rfl dX8_feed_17 ?_
  refine lv_lload X.1 X.2.1 dX8_feed_20 (lv_at hl 3 rfl) ?_
  refine r_Vv (As := [.long a5]) (rest := []) X cN_ok (kX4_addEight h) (cwV 1 X.2.2.2.2 gX8_feed_X4_addEight rfl rfl rfl (by decide +kernel) ⟨Nat.le_of_ble_eq_true rfl, Nat.le_of_ble_eq_true rfl⟩) hw 3 4 rfl rfl rfl hl.1 rfl (Nat.le_of_ble_eq_true rfl) dX8_feed_22 (fun M_5 H locs h hw => ?_)
  refine lv_aload_n X.1 X.2.1 dX8_feed_25 rfl (lv_at hl 0 rfl) ?_
  refine r_gf X inX8_feed_X8 hw 0 rfl rfl 4 (by decide) (X.2.2.2.2 (.fieldLink RX8 38 "TestHall" "tape" "LTestHall$Tape;") (by decide +kernel)) rfl rfl dX8_feed_26 ?_
  refine r_gf X inX8_feed_X4 hw 3 rfl rfl 1 (by decide) (X.2.2.2.2 (.fieldLink RX8 123 "TestHall$Tape" "length" "I") (by decide +kernel)) rfl rfl dX8_feed_29 ?_
  exact r_ret X hr hlk hw h dX8_feed_32

theorem inX8_book_X1 : ∀ w ∈ wsX10, w ∈ wsX8_book := fun w h => List.mem_cons_of_mem _ (List.mem_append_left _ (List.mem_append_right _ h))
theorem inX8_book_X8 : ∀ w ∈ wsX80, w ∈ wsX8_book := fun w h => List.mem_cons_of_mem _ (List.mem_append_left _ (List.mem_append_left _ (List.mem_append_right _ h)))
abbrev rmX8_book : Room := { frames := 2, cells := 0, slots := 0, locals := 43 }
def wX8_book (n : Nat) (M : Sg) (a1 : Nat) (a2 : Int32) (Q : Sg → Prop) : Prop := (a1 < n ∧ (wX0_setBooked n M a2 (gA M 50 a1) (fun M_1 => (a1 < n ∧ (∀ (M_3 : Sg), M_3 = sA M_1 59 a1 a2 → (a1 < n ∧ (∀ (M_4 : Sg), M_4 = sA M_3 58 a1 (1 : Int32) → (Q M_4))))))))
set_option maxHeartbeats 4000000 in
set_option maxRecDepth 100000 in
theorem kX8_book {l : Launch} {D : va_G} {κ : Nat → ClassId} {η : Nat → Nat} {σ : (Nat → Nat) × (Nat → Nat)} {n : Nat} {M : Sg} {a1 : Nat} {a2 : Int32} {Q : Sg → Prop} (h : wX8_book n M a1 a2 Q) : Kv (cN σ) D (Ky κ) (cw κ η n) l yX8_book wsX8_book rmX8_book [.ref (η 0), .ref (η (49 + a1)), .int a2] M Q := by
  refine ofW_g (Qc := fun A => Qv D (Ky κ) (cw κ η n) A Q) (cc := cX8_book) (maxL := 3) (ret := none) (by decide) rfl (Nat.le_of_ble_eq_true rfl) ?_
  intro p e s m args below meth c A ls X hr hlk hw hl
  have hl : lv_has ls 3 [(0, .ref (η 0)), (1, .ref (η (49 + a1))), (2, .int a2)] := hl
  refine lv_aload_n X.1 X.2.1 dX8_book_0 rfl (lv_at hl 0 rfl) ?_
  refine r_gf X inX8_book_X8 hw 0 rfl rfl 0 (by decide) (X.2.2.2.2 (.fieldLink RX8 12 "TestHall" "calendar" "LTestHall$Calendar;") (by decide +kernel)) rfl rfl dX8_book_1 ?_
  refine lv_iload_n X.1 X.2.1 dX8_book_4 rfl (lv_at hl 2 rfl) ?_
  refine lv_aload_n X.1 X.2.1 dX8_book_5 rfl (lv_at hl 1 rfl) ?_
  obtain ⟨hj_, h⟩ := h
  refine r_gf X inX8_book_X1 hw (49 + a1) (cw_lrn hj_) rfl 0 (by decide) (X.2.2.2.2 (.fieldLink RX8 116 "TestHall$Learner" "number" "I") (by decide +kernel)) rfl rfl dX8_book_6 ?_
  refine r_Vv (As := [.int a2, .int (gA M 50 a1)]) (rest := []) X cN_ok (kX0_setBooked h) (cwV 2 X.2.2.2.2 gX8_book_X0_setBooked rfl rfl rfl (by decide +kernel) ⟨Nat.le_of_ble_eq_true rfl, Nat.le_of_ble_eq_true rfl⟩) hw 1 0 rfl rfl rfl hl.1 rfl (Nat.le_of_ble_eq_true rfl) dX8_book_9 (fun M_1 H locs h hw => ?_)
  refine lv_aload_n X.1 X.2.1 dX8_book_12 rfl (lv_at hl 1 rfl) ?_
  refine lv_iload_n X.1 X.2.1 dX8_book_13 rfl (lv_at hl 2 rfl) ?_
  obtain ⟨hj_, h⟩ := h
  refine r_pf (ty := .int) (w' := cw κ η n (sA M_1 59 a1 a2)) X inX8_book_X1 tyX1_ok nmX1 hw (49 + a1) (cw_lrn hj_) rfl 9 (by decide) (X.2.2.2.2 (.fieldLink RX8 143 "TestHall$Learner" "slot" "I") (by decide +kernel)) rfl rfl (by decide +kernel) rfl rfl (Nat.le_of_ble_eq_true rfl) (cw_lset9 hj_) dX8_book_14 (fun H locs hw => ?_)
  obtain ⟨M_3, eM_3⟩ : ∃ y : Sg, y = sA M_1 59 a1 a2 := ⟨_, rfl⟩
  rw [← eM_3] at hw
  have h := h M_3 eM_3
  refine lv_aload_n X.1 X.2.1 dX8_book_17 rfl (lv_at hl 1 rfl) ?_
  refine lv_iconst (v := (1 : Int32)) X.1 X.2.1 dX8_book_18 (by decide) ?_
  obtain ⟨hj_, h⟩ := h
  refine r_pf (ty := .int) (w' := cw κ η n (sA M_3 58 a1 (1 : Int32))) X inX8_book_X1 tyX1_ok nmX1 hw (49 + a1) (cw_lrn hj_) rfl 8 (by decide) (X.2.2.2.2 (.fieldLink RX8 140 "TestHall$Learner" "state" "I") (by decide +kernel)) rfl rfl (by decide +kernel) rfl rfl (Nat.le_of_ble_eq_true rfl) (cw_lset8 hj_) dX8_book_19 (fun H locs hw => ?_)
  obtain ⟨M_4, eM_4⟩ : ∃ y : Sg, y = sA M_3 58 a1 (1 : Int32) := ⟨_, rfl⟩
  rw [← eM_4] at hw
  have h := h M_4 eM_4
  exact r_vret X hr hlk hw h dX8_book_22

theorem inX8_bookLeast_X1 : ∀ w ∈ wsX10, w ∈ wsX8_bookLeast := fun w h => List.mem_cons_of_mem _ (List.mem_append_left _ (List.mem_append_right _ h))
theorem inX8_bookLeast_X8 : ∀ w ∈ wsX80, w ∈ wsX8_bookLeast := fun w h => List.mem_cons_of_mem _ (List.mem_append_left _ (List.mem_append_left _ (List.mem_append_right _ h)))
abbrev rmX8_bookLeast : Room := { frames := 5, cells := 0, slots := 0, locals := 119 }
def wX8_bookLeast (n : Nat) (M : Sg) (a1 : Nat) (Q : Sg → Int32 → Prop) : Prop := (a1 < n ∧ (a1 < n ∧ (a1 < n ∧ (a1 < n ∧ (wX0_leastFree n M (gA M 52 a1) (if (gA M 56 a1) < (gA M 54 a1) then (gA M 54 a1) else (gA M 56 a1)) (gA M 55 a1) (fun M_1 r_2 => ((¬ r_2 = (-1 : Int32) → (wX8_book n M_1 a1 r_2 (fun M_3 => (Q M_3 (1 : Int32))))) ∧ (r_2 = (-1 : Int32) → (Q M_1 (0 : Int32))))))))))
set_option maxHeartbeats 4000000 in
set_option maxRecDepth 100000 in
theorem kX8_bookLeast {l : Launch} {D : va_G} {κ : Nat → ClassId} {η : Nat → Nat} {σ : (Nat → Nat) × (Nat → Nat)} {n : Nat} {M : Sg} {a1 : Nat} {Q : Sg → Int32 → Prop} (h : wX8_bookLeast n M a1 Q) : Ki (cN σ) D (Ky κ) (cw κ η n) l yX8_bookLeast wsX8_bookLeast rmX8_bookLeast [.ref (η 0), .ref (η (49 + a1))] M Q := by
  refine ofW_g (Qc := fun A => Qi D (Ky κ) (cw κ η n) A Q) (cc := cX8_bookLeast) (maxL := 3) (ret := (some .boolean)) (by decide) rfl (Nat.le_of_ble_eq_true rfl) ?_
  intro p e s m args below meth c A ls X hr hlk hw hl
  have hl : lv_has ls 3 [(0, .ref (η 0)), (1, .ref (η (49 + a1)))] := hl
  refine lv_aload_n X.1 X.2.1 dX8_bookLeast_0 rfl (lv_at hl 0 rfl) ?_
  refine r_gf X inX8_bookLeast_X8 hw 0 rfl rfl 0 (by decide) (X.2.2.2.2 (.fieldLink RX8 12 "TestHall" "calendar" "LTestHall$Calendar;") (by decide +kernel)) rfl rfl dX8_bookLeast_1 ?_
  refine lv_aload_n X.1 X.2.1 dX8_bookLeast_4 rfl (lv_at hl 1 rfl) ?_
  obtain ⟨hj_, h⟩ := h
  refine r_gf X inX8_bookLeast_X1 hw (49 + a1) (cw_lrn hj_) rfl 2 (by decide) (X.2.2.2.2 (.fieldLink RX8 97 "TestHall$Learner" "town" "I") (by decide +kernel)) rfl rfl dX8_bookLeast_5 ?_
  refine lv_aload_n X.1 X.2.1 dX8_bookLeast_8 rfl (lv_at hl 1 rfl) ?_
  obtain ⟨hj_, h⟩ := h
  refine r_gf X inX8_bookLeast_X1 hw (49 + a1) (cw_lrn hj_) rfl 6 (by decide) (X.2.2.2.2 (.fieldLink RX8 109 "TestHall$Learner" "wish" "I") (by decide +kernel)) rfl rfl dX8_bookLeast_9 ?_
  refine lv_aload_n X.1 X.2.1 dX8_bookLeast_12 rfl (lv_at hl 1 rfl) ?_
  obtain ⟨hj_, h⟩ := h
  refine r_gf X inX8_bookLeast_X1 hw (49 + a1) (cw_lrn hj_) rfl 4 (by decide) (X.2.2.2.2 (.fieldLink RX8 103 "TestHall$Learner" "from" "I") (by decide +kernel)) rfl rfl dX8_bookLeast_13 ?_
  refine va_mmax X.1 X.2.1 (X.2.2.1.trans hl.1.symm) X.2.2.2.1 (X.2.2.2.2 _ (by decide +kernel)) (X.2.2.2.2 _ (by decide +kernel)) (X.2.2.2.2 _ (by decide +kernel)) (X.2.2.2.2 _ (by decide +kernel)) (Nat.le_of_ble_eq_true rfl) (Nat.le_of_ble_eq_true rfl) (Nat.zero_le _) (Nat.zero_le _) dX8_bookLeast_16 ?_
  refine lv_aload_n X.1 X.2.1 dX8_bookLeast_19 rfl (lv_at hl 1 rfl) ?_
  obtain ⟨hj_, h⟩ := h
  refine r_gf X inX8_bookLeast_X1 hw (49 + a1) (cw_lrn hj_) rfl 5 (by decide) (X.2.2.2.2 (.fieldLink RX8 106 "TestHall$Learner" "to" "I") (by decide +kernel)) rfl rfl dX8_bookLeast_20 ?_
  refine r_Vi (As := [.int (gA M 52 a1), .int (if (gA M 56 a1) < (gA M 54 a1) then (gA M 54 a1) else (gA M 56 a1)), .int (gA M 55 a1)]) (rest := []) X cN_ok (kX0_leastFree h) (cwV 3 X.2.2.2.2 gX8_bookLeast_X0_leastFree rfl rfl rfl (by decide +kernel) ⟨Nat.le_of_ble_eq_true rfl, Nat.le_of_ble_eq_true rfl⟩) hw 1 0 rfl rfl rfl hl.1 rfl (Nat.le_of_ble_eq_true rfl) dX8_bookLeast_23 (fun r_2 M_1 H locs h hw => ?_)
  refine lv_istore_n (lv' := [(2, .int r_2), (0, .ref (η 0)), (1, .ref (η (49 + a1)))]) X.1 X.2.1 dX8_bookLeast_26 rfl hl (by decide) rfl (fun ls hl => ?_)
  refine lv_iload_n X.1 X.2.1 dX8_bookLeast_27 rfl (lv_at hl 0 rfl) ?_
  refine lv_iconst (v := (-1 : Int32)) X.1 X.2.1 dX8_bookLeast_28 (by decide) ?_
  obtain ⟨ht_, hf_⟩ := h
  refine lv_icmp_ne (tgt := 34) X.1 X.2.1 dX8_bookLeast_29 (by decide) (fun c_ => ?_) (fun c_ => ?_)
  · have h := ht_ c_
    refine lv_aload_n X.1 X.2.1 dX8_bookLeast_34 rfl (lv_at hl 1 rfl) ?_
    refine lv_aload_n X.1 X.2.1 dX8_bookLeast_35 rfl (lv_at hl 2 rfl) ?_
    refine lv_iload_n X.1 X.2.1 dX8_bookLeast_36 rfl (lv_at hl 0 rfl) ?_
    refine r_Vv (As := [.ref (η (49 + a1)), .int r_2]) (rest := []) X cN_ok (kX8_book h) (cwV 2 X.2.2.2.2 gX8_bookLeast_X8_book rfl rfl rfl (by decide +kernel) ⟨Nat.le_of_ble_eq_true rfl, Nat.le_of_ble_eq_true rfl⟩) hw 0 7 rfl rfl rfl hl.1 rfl (Nat.le_of_ble_eq_true rfl) dX8_bookLeast_37 (fun M_3 H locs h hw => ?_)
    refine lv_iconst (v := (1 : Int32)) X.1 X.2.1 dX8_bookLeast_40 (by decide) ?_
    exact r_zret X hr hlk hw rfl h dX8_bookLeast_41
  · have h := hf_ c_
    refine lv_iconst (v := (0 : Int32)) X.1 X.2.1 dX8_bookLeast_32 (by decide) ?_
    exact r_zret X hr hlk hw rfl h dX8_bookLeast_33

theorem inX8_find_X8 : ∀ w ∈ wsX80, w ∈ wsX8_find := fun w h => List.mem_cons_of_mem _ (List.mem_append_right _ h)
abbrev rmX8_find : Room := { frames := 1, cells := 0, slots := 0, locals := 22 }
def wX8_find (n : Nat) (M : Sg) (a1 : Int32) (Q : Sg → Option Nat → Prop) : Prop := (wX8_isWithin n M a1 (0 : Int32) ((gI M 23) - (1 : Int32)) (fun M_1 r_2 => ((r_2 = 0 → (Q M_1 none)) ∧ (¬ r_2 = 0 → ((vp_in a1 60 ∧ a1.toNatClampNeg < n) ∧ (Q M_1 (some (a1.toNatClampNeg))))))))
set_option maxHeartbeats 4000000 in
set_option maxRecDepth 100000 in
theorem kX8_find {l : Launch} {D : va_G} {κ : Nat → ClassId} {η : Nat → Nat} {σ : (Nat → Nat) × (Nat → Nat)} {n : Nat} {M : Sg} {a1 : Int32} {Q : Sg → Option Nat → Prop} (h : wX8_find n M a1 Q) : Kq (cN σ) D (Ky κ) (cw κ η n) (fun j => η (49 + j)) l yX8_find wsX8_find rmX8_find [.ref (η 0), .int a1] M Q := by
  refine ofW_g (Qc := fun A => Qq D (Ky κ) (cw κ η n) (fun j => η (49 + j)) A Q) (cc := cX8_find) (maxL := 2) (ret := (some (.object "TestHall$Learner"))) (by decide) rfl (Nat.le_of_ble_eq_true rfl) ?_
  intro p e s m args below meth c A ls X hr hlk hw hl
  have hl : lv_has ls 2 [(0, .ref (η 0)), (1, .int a1)] := hl
  refine lv_iload_n X.1 X.2.1 dX8_find_0 rfl (lv_at hl 1 rfl) ?_
  refine lv_iconst (v := (0 : Int32)) X.1 X.2.1 dX8_find_1 (by decide) ?_
  refine lv_aload_n X.1 X.2.1 dX8_find_2 rfl (lv_at hl 0 rfl) ?_
  refine r_gf X inX8_find_X8 hw 0 rfl rfl 9 (by decide) (X.2.2.2.2 (.fieldLink RX8 64 "TestHall" "learnerCount" "I") (by decide +kernel)) rfl rfl dX8_find_3 ?_
  refine lv_iconst (v := (1 : Int32)) X.1 X.2.1 dX8_find_6 (by decide) ?_
  refine lv_isub X.1 X.2.1 dX8_find_7 ?_
  refine r_Si (As := [.int a1, .int (0 : Int32), .int ((gI M 23) - (1 : Int32))]) (rest := []) X cN_ok (kX8_isWithin h) (va_cwS 3 X.2.2.2.2 gX8_find_X8_isWithin rfl rfl rfl (by decide +kernel) ⟨Nat.le_of_ble_eq_true rfl, Nat.le_of_ble_eq_true rfl⟩) hw rfl hl.1 rfl (Nat.le_of_ble_eq_true rfl) dX8_find_8 (fun r_2 M_1 H locs h hw => ?_)
  obtain ⟨ht_, hf_⟩ := h
  refine lv_if_eq (tgt := 23) X.1 X.2.1 dX8_find_11 (by decide) (fun c_ => ?_) (fun c_ => ?_)
  · have h := ht_ c_
    refine lv_null X.1 X.2.1 dX8_find_23 ?_
    exact r_qretN X hr hlk hw h dX8_find_24
  · have h := hf_ c_
    refine lv_aload_n X.1 X.2.1 dX8_find_14 rfl (lv_at hl 0 rfl) ?_
    refine r_gf X inX8_find_X8 hw 0 rfl rfl 1 (by decide) (X.2.2.2.2 (.fieldLink RX8 18 "TestHall" "learners" "[LTestHall$Learner;") (by decide +kernel)) rfl rfl dX8_find_15 ?_
    refine lv_iload_n X.1 X.2.1 dX8_find_18 rfl (lv_at hl 1 rfl) ?_
    obtain ⟨hi_, h⟩ := h
    refine r_lrn X hw hi_.1 hi_.2 dX8_find_19 ?_
    refine lv_goto (tgt := 24) X.1 X.2.1 dX8_find_20 (by decide) ?_
    exact r_qret (ad := fun j => η (49 + j)) X hr hlk hw h dX8_find_24

theorem inX8_dealLine_X2 : ∀ w ∈ wsX20, w ∈ wsX8_dealLine := fun w h => List.mem_cons_of_mem _ (List.mem_append_left _ (List.mem_append_left _ (List.mem_append_right _ h)))
theorem inX8_dealLine_X8 : ∀ w ∈ wsX80, w ∈ wsX8_dealLine := fun w h => List.mem_cons_of_mem _ (List.mem_append_left _ (List.mem_append_left _ (List.mem_append_left _ (List.mem_append_right _ h))))
abbrev rmX8_dealLine : Room := { frames := 6, cells := 0, slots := 0, locals := 141 }
def vX8_dealLine_44 (n : Nat) (K4 : Sg → Int32 → Int32 → Prop) (Q : Sg → Int32 → Prop) (M : Sg) (x1 : Int32) (x2 : Int32) : Prop := (∀ (x_1 : Int32), x_1 = x2 + (1 : Int32) → (K4 M x1 x_1))
set_option maxHeartbeats 4000000 in
set_option maxRecDepth 100000 in
theorem bX8_dealLine_44 {p : Program} {l : Launch} {e : Env} {s : State} {m : MethodId} {args : Array Value} {below : List Frame} {meth : Method} {c : Code} {D : va_G} {κ : Nat → ClassId} {η : Nat → Nat} {σ : (Nat → Nat) × (Nat → Nat)} {A : Nat → Prop} {n : Nat} {Q : Sg → Int32 → Prop} {K4 : Sg → Int32 → Int32 → Prop} (X : CallFix p m c cX8_dealLine 4 s args wsX8_dealLine RX8) (hr : meth.sig.returnType = (some .int)) (hlk : meth.locks = false) (hK4 : ∀ (M : Sg) (x1 : Int32) (x2 : Int32) (H : Heap) (locs : List Loc) (ls : Array Slot), K4 M x1 x2 → Wd (cN σ) D (Ky κ) A s (cw κ η n M) H locs → lv_has ls 4 [(0, .ref (η 0)), (1, .int x1), (2, .int x2)] → W p l e rmX8_dealLine s m args below meth c H locs 0 0 (MQ below (Qi D (Ky κ) (cw κ η n) A Q) args s 0 0 A) (F0 m 4 ls [])) : ∀ (M : Sg) (x1 : Int32) (x2 : Int32) (H : Heap) (locs : List Loc) (ls : Array Slot), vX8_dealLine_44 n K4 Q M x1 x2 → Wd (cN σ) D (Ky κ) A s (cw κ η n M) H locs → lv_has ls 4 [(0, .ref (η 0)), (1, .int x1), (2, .int x2)] → W p l e rmX8_dealLine s m args below meth c H locs 0 0 (MQ below (Qi D (Ky κ) (cw κ η n) A Q) args s 0 0 A) (F0 m 44 ls []) := by
  intro M x1 x2 H locs ls h hw hl
  obtain ⟨x_1, ex_1⟩ : ∃ y : Int32, y = x2 + (1 : Int32) := ⟨_, rfl⟩
  have h := h x_1 ex_1
  refine lv_iinc (v := x_1) (lv' := [(2, .int x_1), (0, .ref (η 0)), (1, .int x1)]) X.1 X.2.1 dX8_dealLine_44 hl (k := 2) rfl (by rw [ex_1]; rfl) (by decide) rfl (fun ls hl => ?_)
  refine lv_goto (tgt := 4) X.1 X.2.1 dX8_dealLine_47 (by decide) ?_
  exact hK4 M x1 x_1 _ _ _ h hw (lv_sub hl [1, 2, 0] rfl)
def vX8_dealLine_4 (n : Nat) (Q : Sg → Int32 → Prop) : Nat → Sg → Int32 → Int32 → Prop
  | 0, _, _, _ => False
  | f4_ + 1, M, x1, x2 => (((gI M 4) ≤ x2 → (Q M x1)) ∧ (¬ (gI M 4) ≤ x2 → (vp_in x2 60 ∧ (wX8_find n M (gA M 5 x2.toNatClampNeg) (fun M_1 r_2 => ((r_2 = none → (vX8_dealLine_44 n (vX8_dealLine_4 n Q f4_) Q M_1 x1 x2)) ∧ (∀ j_3 : Nat, r_2 = some j_3 → (wX8_bookLeast n M_1 j_3 (fun M_4 r_5 => ((r_5 = 0 → (vX8_dealLine_44 n (vX8_dealLine_4 n Q f4_) Q M_4 x1 x2)) ∧ (¬ r_5 = 0 → (∀ (x_6 : Int32), x_6 = x1 + (1 : Int32) → (vX8_dealLine_44 n (vX8_dealLine_4 n Q f4_) Q M_4 x_6 x2)))))))))))))
set_option maxHeartbeats 4000000 in
set_option maxRecDepth 100000 in
theorem bX8_dealLine_4 {p : Program} {l : Launch} {e : Env} {s : State} {m : MethodId} {args : Array Value} {below : List Frame} {meth : Method} {c : Code} {D : va_G} {κ : Nat → ClassId} {η : Nat → Nat} {σ : (Nat → Nat) × (Nat → Nat)} {A : Nat → Prop} {n : Nat} {Q : Sg → Int32 → Prop} (X : CallFix p m c cX8_dealLine 4 s args wsX8_dealLine RX8) (hr : meth.sig.returnType = (some .int)) (hlk : meth.locks = false) : ∀ (f_ : Nat) (M : Sg) (x1 : Int32) (x2 : Int32) (H : Heap) (locs : List Loc) (ls : Array Slot), vX8_dealLine_4 n Q f_ M x1 x2 → Wd (cN σ) D (Ky κ) A s (cw κ η n M) H locs → lv_has ls 4 [(0, .ref (η 0)), (1, .int x1), (2, .int x2)] → W p l e rmX8_dealLine s m args below meth c H locs 0 0 (MQ below (Qi D (Ky κ) (cw κ η n) A Q) args s 0 0 A) (F0 m 4 ls []) := by
  intro f_
  induction f_ with
  | zero => intro M x1 x2 H locs ls h; exact h.elim
  | succ f_ hK4 =>
    intro M x1 x2 H locs ls h hw hl
    refine lv_iload_n X.1 X.2.1 dX8_dealLine_4 rfl (lv_at hl 2 rfl) ?_
    refine lv_aload_n X.1 X.2.1 dX8_dealLine_5 rfl (lv_at hl 0 rfl) ?_
    refine r_gf X inX8_dealLine_X8 hw 0 rfl rfl 2 (by decide) (X.2.2.2.2 (.fieldLink RX8 25 "TestHall" "line" "LTestHall$Line;") (by decide +kernel)) rfl rfl dX8_dealLine_6 ?_
    refine r_gf X inX8_dealLine_X2 hw 2 rfl rfl 2 (by decide) (X.2.2.2.2 (.fieldLink RX8 173 "TestHall$Line" "size" "I") (by decide +kernel)) rfl rfl dX8_dealLine_9 ?_
    obtain ⟨ht_, hf_⟩ := h
    refine lv_icmp_ge (tgt := 50) X.1 X.2.1 dX8_dealLine_12 (by decide) (fun c_ => ?_) (fun c_ => ?_)
    · have h := ht_ c_
      refine lv_iload_n X.1 X.2.1 dX8_dealLine_50 rfl (lv_at hl 1 rfl) ?_
      exact r_ret X hr hlk hw h dX8_dealLine_51
    · have h := hf_ c_
      refine lv_aload_n X.1 X.2.1 dX8_dealLine_15 rfl (lv_at hl 0 rfl) ?_
      refine lv_aload_n X.1 X.2.1 dX8_dealLine_16 rfl (lv_at hl 0 rfl) ?_
      refine r_gf X inX8_dealLine_X8 hw 0 rfl rfl 2 (by decide) (X.2.2.2.2 (.fieldLink RX8 25 "TestHall" "line" "LTestHall$Line;") (by decide +kernel)) rfl rfl dX8_dealLine_17 ?_
      refine r_gf X inX8_dealLine_X2 hw 2 rfl rfl 0 (by decide) (X.2.2.2.2 (.fieldLink RX8 276 "TestHall$Line" "numbers" "[I") (by decide +kernel)) rfl rfl dX8_dealLine_20 ?_
      refine lv_iload_n X.1 X.2.1 dX8_dealLine_23 rfl (lv_at hl 2 rfl) ?_
      obtain ⟨hi_, h⟩ := h
      refine r_ial X hw 14 0 rfl rfl hi_ dX8_dealLine_24 ?_
      refine r_Vq (As := [.int (gA M 5 x2.toNatClampNeg)]) (rest := []) X cN_ok (kX8_find h) (cwV 1 X.2.2.2.2 gX8_dealLine_X8_find rfl rfl rfl (by decide +kernel) ⟨Nat.le_of_ble_eq_true rfl, Nat.le_of_ble_eq_true rfl⟩) hw 0 7 rfl rfl rfl hl.1 rfl (Nat.le_of_ble_eq_true rfl) dX8_dealLine_25 (fun M_1 H locs h hw => ?_) (fun j_3 M_1 H locs h hw => ?_)
      · have h := h.1 rfl
        refine lv_astore_nN (lv' := [(3, .null), (0, .ref (η 0)), (1, .int x1), (2, .int x2)]) X.1 X.2.1 dX8_dealLine_28 rfl hl (by decide) rfl (fun ls hl => ?_)
        refine lv_aload_nN X.1 X.2.1 dX8_dealLine_29 rfl (lv_at hl 0 rfl) ?_
        refine lv_ifnullN (tgt := 44) X.1 X.2.1 dX8_dealLine_30 (by decide) ?_
        exact bX8_dealLine_44 X hr hlk hK4 M_1 x1 x2 _ _ _ h hw (lv_sub hl [1, 2, 3] rfl)
      · have h := h.2 j_3 rfl
        refine lv_astore_n (lv' := [(3, .ref (η (49 + j_3))), (0, .ref (η 0)), (1, .int x1), (2, .int x2)]) X.1 X.2.1 dX8_dealLine_28 rfl hl (by decide) rfl (fun ls hl => ?_)
        refine lv_aload_n X.1 X.2.1 dX8_dealLine_29 rfl (lv_at hl 0 rfl) ?_
        refine lv_ifnull X.1 X.2.1 dX8_dealLine_30 ?_
        refine lv_aload_n X.1 X.2.1 dX8_dealLine_33 rfl (lv_at hl 1 rfl) ?_
        refine lv_aload_n X.1 X.2.1 dX8_dealLine_34 rfl (lv_at hl 0 rfl) ?_
        refine r_Vi (As := [.ref (η (49 + j_3))]) (rest := []) X cN_ok (kX8_bookLeast h) (cwV 1 X.2.2.2.2 gX8_dealLine_X8_bookLeast rfl rfl rfl (by decide +kernel) ⟨Nat.le_of_ble_eq_true rfl, Nat.le_of_ble_eq_true rfl⟩) hw 0 7 rfl rfl rfl hl.1 rfl (Nat.le_of_ble_eq_true rfl) dX8_dealLine_35 (fun r_5 M_4 H locs h hw => ?_)
        obtain ⟨ht_, hf_⟩ := h
        refine lv_if_eq (tgt := 44) X.1 X.2.1 dX8_dealLine_38 (by decide) (fun c_ => ?_) (fun c_ => ?_)
        · have h := ht_ c_
          exact bX8_dealLine_44 X hr hlk hK4 M_4 x1 x2 _ _ _ h hw (lv_sub hl [1, 2, 3] rfl)
        · have h := hf_ c_
          obtain ⟨x_6, ex_6⟩ : ∃ y : Int32, y = x1 + (1 : Int32) := ⟨_, rfl⟩
          have h := h x_6 ex_6
          refine lv_iinc (v := x_6) (lv' := [(1, .int x_6), (3, .ref (η (49 + j_3))), (0, .ref (η 0)), (2, .int x2)]) X.1 X.2.1 dX8_dealLine_41 hl (k := 2) rfl (by rw [ex_6]; rfl) (by decide) rfl (fun ls hl => ?_)
          exact bX8_dealLine_44 X hr hlk hK4 M_4 x_6 x2 _ _ _ h hw (lv_sub hl [2, 0, 3] rfl)
def wX8_dealLine (n : Nat) (M : Sg) (Q : Sg → Int32 → Prop) : Prop := (∃ g4_ : Nat, vX8_dealLine_4 n Q g4_ M (0 : Int32) (0 : Int32))
set_option maxHeartbeats 4000000 in
set_option maxRecDepth 100000 in
theorem kX8_dealLine {l : Launch} {D : va_G} {κ : Nat → ClassId} {η : Nat → Nat} {σ : (Nat → Nat) × (Nat → Nat)} {n : Nat} {M : Sg} {Q : Sg → Int32 → Prop} (h : wX8_dealLine n M Q) : Ki (cN σ) D (Ky κ) (cw κ η n) l yX8_dealLine wsX8_dealLine rmX8_dealLine [.ref (η 0)] M Q := by
  refine ofW_g (Qc := fun A => Qi D (Ky κ) (cw κ η n) A Q) (cc := cX8_dealLine) (maxL := 4) (ret := (some .int)) (by decide) rfl (Nat.le_of_ble_eq_true rfl) ?_
  intro p e s m args below meth c A ls X hr hlk hw hl
  have hl : lv_has ls 4 [(0, .ref (η 0))] := hl
  refine lv_iconst (v := (0 : Int32)) X.1 X.2.1 dX8_dealLine_0 (by decide) ?_
  refine lv_istore_n (lv' := [(1, .int (0 : Int32)), (0, .ref (η 0))]) X.1 X.2.1 dX8_dealLine_1 rfl hl (by decide) rfl (fun ls hl => ?_)
  refine lv_iconst (v := (0 : Int32)) X.1 X.2.1 dX8_dealLine_2 (by decide) ?_
  refine lv_istore_n (lv' := [(2, .int (0 : Int32)), (1, .int (0 : Int32)), (0, .ref (η 0))]) X.1 X.2.1 dX8_dealLine_3 rfl hl (by decide) rfl (fun ls hl => ?_)
  obtain ⟨f_, h⟩ := h
  exact bX8_dealLine_4 X hr hlk f_ M (0 : Int32) (0 : Int32) _ _ _ h hw (lv_sub hl [2, 1, 0] rfl)

theorem inX8_rankOf_X0 : ∀ w ∈ wsX00, w ∈ wsX8_rankOf := fun w h => List.mem_cons_of_mem _ (List.mem_append_left _ (List.mem_append_right _ h))
theorem inX8_rankOf_X1 : ∀ w ∈ wsX10, w ∈ wsX8_rankOf := fun w h => List.mem_cons_of_mem _ (List.mem_append_left _ (List.mem_append_left _ (List.mem_append_right _ h)))
theorem inX8_rankOf_X8 : ∀ w ∈ wsX80, w ∈ wsX8_rankOf := fun w h => List.mem_cons_of_mem _ (List.mem_append_left _ (List.mem_append_left _ (List.mem_append_left _ (List.mem_append_right _ h))))
abbrev rmX8_rankOf : Room := { frames := 3, cells := 0, slots := 0, locals := 71 }
def wX8_rankOf (n : Nat) (M : Sg) (a1 : Nat) (Q : Sg → Int32 → Prop) : Prop := (a1 < n ∧ (vp_in (0 : Int32) 6 ∧ (∀ (M_1 : Sg), M_1 = sA M 7 (0 : Int32).toNatClampNeg (gA M 53 a1) → (a1 < n ∧ (vp_in (1 : Int32) 6 ∧ (∀ (M_2 : Sg), M_2 = sA M_1 7 (1 : Int32).toNatClampNeg (gA M_1 52 a1) → (a1 < n ∧ (vp_in (2 : Int32) 6 ∧ (∀ (M_3 : Sg), M_3 = sA M_2 7 (2 : Int32).toNatClampNeg ((gI M_2 1) - (gA M_2 51 a1)) → (a1 < n ∧ (vp_in (3 : Int32) 6 ∧ (∀ (M_4 : Sg), M_4 = sA M_3 7 (3 : Int32).toNatClampNeg (gA M_3 60 a1) → (a1 < n ∧ (vp_in (4 : Int32) 6 ∧ (∀ (M_5 : Sg), M_5 = sA M_4 7 (4 : Int32).toNatClampNeg ((gA M_4 55 a1) - (gI M_4 1)) → (vp_in (5 : Int32) 6 ∧ (∀ (M_6 : Sg), M_6 = sA M_5 7 (5 : Int32).toNatClampNeg (gI M_5 1) → (wX5_rankBy n M_6 (fun M_7 r_8 => (Q M_7 r_8))))))))))))))))))))
set_option maxHeartbeats 4000000 in
set_option maxRecDepth 100000 in
theorem kX8_rankOf {l : Launch} {D : va_G} {κ : Nat → ClassId} {η : Nat → Nat} {σ : (Nat → Nat) × (Nat → Nat)} {n : Nat} {M : Sg} {a1 : Nat} {Q : Sg → Int32 → Prop} (h : wX8_rankOf n M a1 Q) : Ki (cN σ) D (Ky κ) (cw κ η n) l yX8_rankOf wsX8_rankOf rmX8_rankOf [.ref (η 0), .ref (η (49 + a1))] M Q := by
  refine ofW_g (Qc := fun A => Qi D (Ky κ) (cw κ η n) A Q) (cc := cX8_rankOf) (maxL := 2) (ret := (some .int)) (by decide) rfl (Nat.le_of_ble_eq_true rfl) ?_
  intro p e s m args below meth c A ls X hr hlk hw hl
  have hl : lv_has ls 2 [(0, .ref (η 0)), (1, .ref (η (49 + a1)))] := hl
  refine lv_aload_n X.1 X.2.1 dX8_rankOf_0 rfl (lv_at hl 0 rfl) ?_
  refine r_gf X inX8_rankOf_X8 hw 0 rfl rfl 3 (by decide) (X.2.2.2.2 (.fieldLink RX8 31 "TestHall" "facts" "[I") (by decide +kernel)) rfl rfl dX8_rankOf_1 ?_
  refine lv_iconst (v := (0 : Int32)) X.1 X.2.1 dX8_rankOf_4 (by decide) ?_
  refine lv_aload_n X.1 X.2.1 dX8_rankOf_5 rfl (lv_at hl 1 rfl) ?_
  obtain ⟨hj_, h⟩ := h
  refine r_gf X inX8_rankOf_X1 hw (49 + a1) (cw_lrn hj_) rfl 3 (by decide) (X.2.2.2.2 (.fieldLink RX8 100 "TestHall$Learner" "sort" "I") (by decide +kernel)) rfl rfl dX8_rankOf_6 ?_
  obtain ⟨hi_, h⟩ := h
  refine r_ias (w' := cw κ η n (sA M 7 (0 : Int32).toNatClampNeg (gA M 53 a1))) X hw 16 0 rfl rfl hi_ rfl dX8_rankOf_9 (fun H locs hw => ?_)
  obtain ⟨M_1, eM_1⟩ : ∃ y : Sg, y = sA M 7 (0 : Int32).toNatClampNeg (gA M 53 a1) := ⟨_, rfl⟩
  rw [← eM_1] at hw
  have h := h M_1 eM_1
  refine lv_aload_n X.1 X.2.1 dX8_rankOf_10 rfl (lv_at hl 0 rfl) ?_
  refine r_gf X inX8_rankOf_X8 hw 0 rfl rfl 3 (by decide) (X.2.2.2.2 (.fieldLink RX8 31 "TestHall" "facts" "[I") (by decide +kernel)) rfl rfl dX8_rankOf_11 ?_
  refine lv_iconst (v := (1 : Int32)) X.1 X.2.1 dX8_rankOf_14 (by decide) ?_
  refine lv_aload_n X.1 X.2.1 dX8_rankOf_15 rfl (lv_at hl 1 rfl) ?_
  obtain ⟨hj_, h⟩ := h
  refine r_gf X inX8_rankOf_X1 hw (49 + a1) (cw_lrn hj_) rfl 2 (by decide) (X.2.2.2.2 (.fieldLink RX8 97 "TestHall$Learner" "town" "I") (by decide +kernel)) rfl rfl dX8_rankOf_16 ?_
  obtain ⟨hi_, h⟩ := h
  refine r_ias (w' := cw κ η n (sA M_1 7 (1 : Int32).toNatClampNeg (gA M_1 52 a1))) X hw 16 0 rfl rfl hi_ rfl dX8_rankOf_19 (fun H locs hw => ?_)
  obtain ⟨M_2, eM_2⟩ : ∃ y : Sg, y = sA M_1 7 (1 : Int32).toNatClampNeg (gA M_1 52 a1) := ⟨_, rfl⟩
  rw [← eM_2] at hw
  have h := h M_2 eM_2
  refine lv_aload_n X.1 X.2.1 dX8_rankOf_20 rfl (lv_at hl 0 rfl) ?_
  refine r_gf X inX8_rankOf_X8 hw 0 rfl rfl 3 (by decide) (X.2.2.2.2 (.fieldLink RX8 31 "TestHall" "facts" "[I") (by decide +kernel)) rfl rfl dX8_rankOf_21 ?_
  refine lv_iconst (v := (2 : Int32)) X.1 X.2.1 dX8_rankOf_24 (by decide) ?_
  refine lv_aload_n X.1 X.2.1 dX8_rankOf_25 rfl (lv_at hl 0 rfl) ?_
  refine r_gf X inX8_rankOf_X8 hw 0 rfl rfl 0 (by decide) (X.2.2.2.2 (.fieldLink RX8 12 "TestHall" "calendar" "LTestHall$Calendar;") (by decide +kernel)) rfl rfl dX8_rankOf_26 ?_
  refine r_gf X inX8_rankOf_X0 hw 1 rfl rfl 6 (by decide) (X.2.2.2.2 (.fieldLink RX8 80 "TestHall$Calendar" "now" "I") (by decide +kernel)) rfl rfl dX8_rankOf_29 ?_
  refine lv_aload_n X.1 X.2.1 dX8_rankOf_32 rfl (lv_at hl 1 rfl) ?_
  obtain ⟨hj_, h⟩ := h
  refine r_gf X inX8_rankOf_X1 hw (49 + a1) (cw_lrn hj_) rfl 1 (by decide) (X.2.2.2.2 (.fieldLink RX8 266 "TestHall$Learner" "came" "I") (by decide +kernel)) rfl rfl dX8_rankOf_33 ?_
  refine lv_isub X.1 X.2.1 dX8_rankOf_36 ?_
  obtain ⟨hi_, h⟩ := h
  refine r_ias (w' := cw κ η n (sA M_2 7 (2 : Int32).toNatClampNeg ((gI M_2 1) - (gA M_2 51 a1)))) X hw 16 0 rfl rfl hi_ rfl dX8_rankOf_37 (fun H locs hw => ?_)
  obtain ⟨M_3, eM_3⟩ : ∃ y : Sg, y = sA M_2 7 (2 : Int32).toNatClampNeg ((gI M_2 1) - (gA M_2 51 a1)) := ⟨_, rfl⟩
  rw [← eM_3] at hw
  have h := h M_3 eM_3
  refine lv_aload_n X.1 X.2.1 dX8_rankOf_38 rfl (lv_at hl 0 rfl) ?_
  refine r_gf X inX8_rankOf_X8 hw 0 rfl rfl 3 (by decide) (X.2.2.2.2 (.fieldLink RX8 31 "TestHall" "facts" "[I") (by decide +kernel)) rfl rfl dX8_rankOf_39 ?_
  refine lv_iconst (v := (3 : Int32)) X.1 X.2.1 dX8_rankOf_42 (by decide) ?_
  refine lv_aload_n X.1 X.2.1 dX8_rankOf_43 rfl (lv_at hl 1 rfl) ?_
  obtain ⟨hj_, h⟩ := h
  refine r_gf X inX8_rankOf_X1 hw (49 + a1) (cw_lrn hj_) rfl 10 (by decide) (X.2.2.2.2 (.fieldLink RX8 183 "TestHall$Learner" "tries" "I") (by decide +kernel)) rfl rfl dX8_rankOf_44 ?_
  obtain ⟨hi_, h⟩ := h
  refine r_ias (w' := cw κ η n (sA M_3 7 (3 : Int32).toNatClampNeg (gA M_3 60 a1))) X hw 16 0 rfl rfl hi_ rfl dX8_rankOf_47 (fun H locs hw => ?_)
  obtain ⟨M_4, eM_4⟩ : ∃ y : Sg, y = sA M_3 7 (3 : Int32).toNatClampNeg (gA M_3 60 a1) := ⟨_, rfl⟩
  rw [← eM_4] at hw
  have h := h M_4 eM_4
  refine lv_aload_n X.1 X.2.1 dX8_rankOf_48 rfl (lv_at hl 0 rfl) ?_
  refine r_gf X inX8_rankOf_X8 hw 0 rfl rfl 3 (by decide) (X.2.2.2.2 (.fieldLink RX8 31 "TestHall" "facts" "[I") (by decide +kernel)) rfl rfl dX8_rankOf_49 ?_
  refine lv_iconst (v := (4 : Int32)) X.1 X.2.1 dX8_rankOf_52 (by decide) ?_
  refine lv_aload_n X.1 X.2.1 dX8_rankOf_53 rfl (lv_at hl 1 rfl) ?_
  obtain ⟨hj_, h⟩ := h
  refine r_gf X inX8_rankOf_X1 hw (49 + a1) (cw_lrn hj_) rfl 5 (by decide) (X.2.2.2.2 (.fieldLink RX8 106 "TestHall$Learner" "to" "I") (by decide +kernel)) rfl rfl dX8_rankOf_54 ?_
  refine lv_aload_n X.1 X.2.1 dX8_rankOf_57 rfl (lv_at hl 0 rfl) ?_
  refine r_gf X inX8_rankOf_X8 hw 0 rfl rfl 0 (by decide) (X.2.2.2.2 (.fieldLink RX8 12 "TestHall" "calendar" "LTestHall$Calendar;") (by decide +kernel)) rfl rfl dX8_rankOf_58 ?_
  refine r_gf X inX8_rankOf_X0 hw 1 rfl rfl 6 (by decide) (X.2.2.2.2 (.fieldLink RX8 80 "TestHall$Calendar" "now" "I") (by decide +kernel)) rfl rfl dX8_rankOf_61 ?_
  refine lv_isub X.1 X.2.1 dX8_rankOf_64 ?_
  obtain ⟨hi_, h⟩ := h
  refine r_ias (w' := cw κ η n (sA M_4 7 (4 : Int32).toNatClampNeg ((gA M_4 55 a1) - (gI M_4 1)))) X hw 16 0 rfl rfl hi_ rfl dX8_rankOf_65 (fun H locs hw => ?_)
  obtain ⟨M_5, eM_5⟩ : ∃ y : Sg, y = sA M_4 7 (4 : Int32).toNatClampNeg ((gA M_4 55 a1) - (gI M_4 1)) := ⟨_, rfl⟩
  rw [← eM_5] at hw
  have h := h M_5 eM_5
  refine lv_aload_n X.1 X.2.1 dX8_rankOf_66 rfl (lv_at hl 0 rfl) ?_
  refine r_gf X inX8_rankOf_X8 hw 0 rfl rfl 3 (by decide) (X.2.2.2.2 (.fieldLink RX8 31 "TestHall" "facts" "[I") (by decide +kernel)) rfl rfl dX8_rankOf_67 ?_
  refine lv_iconst (v := (5 : Int32)) X.1 X.2.1 dX8_rankOf_70 (by decide) ?_
  refine lv_aload_n X.1 X.2.1 dX8_rankOf_71 rfl (lv_at hl 0 rfl) ?_
  refine r_gf X inX8_rankOf_X8 hw 0 rfl rfl 0 (by decide) (X.2.2.2.2 (.fieldLink RX8 12 "TestHall" "calendar" "LTestHall$Calendar;") (by decide +kernel)) rfl rfl dX8_rankOf_72 ?_
  refine r_gf X inX8_rankOf_X0 hw 1 rfl rfl 6 (by decide) (X.2.2.2.2 (.fieldLink RX8 80 "TestHall$Calendar" "now" "I") (by decide +kernel)) rfl rfl dX8_rankOf_75 ?_
  obtain ⟨hi_, h⟩ := h
  refine r_ias (w' := cw κ η n (sA M_5 7 (5 : Int32).toNatClampNeg (gI M_5 1))) X hw 16 0 rfl rfl hi_ rfl dX8_rankOf_78 (fun H locs hw => ?_)
  obtain ⟨M_6, eM_6⟩ : ∃ y : Sg, y = sA M_5 7 (5 : Int32).toNatClampNeg (gI M_5 1) := ⟨_, rfl⟩
  rw [← eM_6] at hw
  have h := h M_6 eM_6
  refine lv_aload_n X.1 X.2.1 dX8_rankOf_79 rfl (lv_at hl 0 rfl) ?_
  refine r_gf X inX8_rankOf_X8 hw 0 rfl rfl 7 (by decide) (X.2.2.2.2 (.fieldLink RX8 57 "TestHall" "order" "LTestHall$Text;") (by decide +kernel)) rfl rfl dX8_rankOf_80 ?_
  refine lv_aload_n X.1 X.2.1 dX8_rankOf_83 rfl (lv_at hl 0 rfl) ?_
  refine r_gf X inX8_rankOf_X8 hw 0 rfl rfl 3 (by decide) (X.2.2.2.2 (.fieldLink RX8 31 "TestHall" "facts" "[I") (by decide +kernel)) rfl rfl dX8_rankOf_84 ?_
  refine r_Vi (As := [.ref (η 16)]) (rest := []) X cN_ok (kX5_rankBy h) (cwV 1 X.2.2.2.2 gX8_rankOf_X5_rankBy rfl rfl rfl (by decide +kernel) ⟨Nat.le_of_ble_eq_true rfl, Nat.le_of_ble_eq_true rfl⟩) hw 6 5 rfl rfl rfl hl.1 rfl (Nat.le_of_ble_eq_true rfl) dX8_rankOf_87 (fun r_8 M_7 H locs h hw => ?_)
  exact r_ret X hr hlk hw h dX8_rankOf_90

theorem inX8_lineUpWaiting_X1 : ∀ w ∈ wsX10, w ∈ wsX8_lineUpWaiting := fun w h => List.mem_cons_of_mem _ (List.mem_append_left _ (List.mem_append_left _ (List.mem_append_left _ (List.mem_append_right _ h))))
theorem inX8_lineUpWaiting_X8 : ∀ w ∈ wsX80, w ∈ wsX8_lineUpWaiting := fun w h => List.mem_cons_of_mem _ (List.mem_append_left _ (List.mem_append_left _ (List.mem_append_left _ (List.mem_append_left _ (List.mem_append_right _ h)))))
abbrev rmX8_lineUpWaiting : Room := { frames := 4, cells := 0, slots := 0, locals := 92 }
def vX8_lineUpWaiting_47 (n : Nat) (K9 : Sg → Int32 → Prop) (Q : Sg → Prop) (M : Sg) (x1 : Int32) : Prop := (∀ (x_1 : Int32), x_1 = x1 + (1 : Int32) → (K9 M x_1))
set_option maxHeartbeats 4000000 in
set_option maxRecDepth 100000 in
theorem bX8_lineUpWaiting_47 {p : Program} {l : Launch} {e : Env} {s : State} {m : MethodId} {args : Array Value} {below : List Frame} {meth : Method} {c : Code} {D : va_G} {κ : Nat → ClassId} {η : Nat → Nat} {σ : (Nat → Nat) × (Nat → Nat)} {A : Nat → Prop} {n : Nat} {Q : Sg → Prop} {K9 : Sg → Int32 → Prop} (X : CallFix p m c cX8_lineUpWaiting 2 s args wsX8_lineUpWaiting RX8) (hr : meth.sig.returnType = none) (hlk : meth.locks = false) (hK9 : ∀ (M : Sg) (x1 : Int32) (H : Heap) (locs : List Loc) (ls : Array Slot), K9 M x1 → Wd (cN σ) D (Ky κ) A s (cw κ η n M) H locs → lv_has ls 2 [(0, .ref (η 0)), (1, .int x1)] → W p l e rmX8_lineUpWaiting s m args below meth c H locs 0 0 (MQ below (Qv D (Ky κ) (cw κ η n) A Q) args s 0 0 A) (F0 m 9 ls [])) : ∀ (M : Sg) (x1 : Int32) (H : Heap) (locs : List Loc) (ls : Array Slot), vX8_lineUpWaiting_47 n K9 Q M x1 → Wd (cN σ) D (Ky κ) A s (cw κ η n M) H locs → lv_has ls 2 [(0, .ref (η 0)), (1, .int x1)] → W p l e rmX8_lineUpWaiting s m args below meth c H locs 0 0 (MQ below (Qv D (Ky κ) (cw κ η n) A Q) args s 0 0 A) (F0 m 47 ls []) := by
  intro M x1 H locs ls h hw hl
  obtain ⟨x_1, ex_1⟩ : ∃ y : Int32, y = x1 + (1 : Int32) := ⟨_, rfl⟩
  have h := h x_1 ex_1
  refine lv_iinc (v := x_1) (lv' := [(1, .int x_1), (0, .ref (η 0))]) X.1 X.2.1 dX8_lineUpWaiting_47 hl (k := 1) rfl (by rw [ex_1]; rfl) (by decide) rfl (fun ls hl => ?_)
  refine lv_goto (tgt := 9) X.1 X.2.1 dX8_lineUpWaiting_50 (by decide) ?_
  exact hK9 M x_1 _ _ _ h hw (lv_sub hl [1, 0] rfl)
def vX8_lineUpWaiting_9 (n : Nat) (Q : Sg → Prop) : Nat → Sg → Int32 → Prop
  | 0, _, _ => False
  | f9_ + 1, M, x1 => (((gI M 23) ≤ x1 → (Q M)) ∧ (¬ (gI M 23) ≤ x1 → ((vp_in x1 60 ∧ x1.toNatClampNeg < n) ∧ ((x1.toNatClampNeg) < n ∧ ((¬ (gA M 58 (x1.toNatClampNeg)) = 0 → (vX8_lineUpWaiting_47 n (vX8_lineUpWaiting_9 n Q f9_) Q M x1)) ∧ ((gA M 58 (x1.toNatClampNeg)) = 0 → ((vp_in x1 60 ∧ x1.toNatClampNeg < n) ∧ (wX8_rankOf n M (x1.toNatClampNeg) (fun M_1 r_2 => (wX2_add n M_1 x1 r_2 (fun M_3 => (vX8_lineUpWaiting_47 n (vX8_lineUpWaiting_9 n Q f9_) Q M_3 x1))))))))))))
set_option maxHeartbeats 4000000 in
set_option maxRecDepth 100000 in
theorem bX8_lineUpWaiting_9 {p : Program} {l : Launch} {e : Env} {s : State} {m : MethodId} {args : Array Value} {below : List Frame} {meth : Method} {c : Code} {D : va_G} {κ : Nat → ClassId} {η : Nat → Nat} {σ : (Nat → Nat) × (Nat → Nat)} {A : Nat → Prop} {n : Nat} {Q : Sg → Prop} (X : CallFix p m c cX8_lineUpWaiting 2 s args wsX8_lineUpWaiting RX8) (hr : meth.sig.returnType = none) (hlk : meth.locks = false) : ∀ (f_ : Nat) (M : Sg) (x1 : Int32) (H : Heap) (locs : List Loc) (ls : Array Slot), vX8_lineUpWaiting_9 n Q f_ M x1 → Wd (cN σ) D (Ky κ) A s (cw κ η n M) H locs → lv_has ls 2 [(0, .ref (η 0)), (1, .int x1)] → W p l e rmX8_lineUpWaiting s m args below meth c H locs 0 0 (MQ below (Qv D (Ky κ) (cw κ η n) A Q) args s 0 0 A) (F0 m 9 ls []) := by
  intro f_
  induction f_ with
  | zero => intro M x1 H locs ls h; exact h.elim
  | succ f_ hK9 =>
    intro M x1 H locs ls h hw hl
    refine lv_iload_n X.1 X.2.1 dX8_lineUpWaiting_9 rfl (lv_at hl 1 rfl) ?_
    refine lv_aload_n X.1 X.2.1 dX8_lineUpWaiting_10 rfl (lv_at hl 0 rfl) ?_
    refine r_gf X inX8_lineUpWaiting_X8 hw 0 rfl rfl 9 (by decide) (X.2.2.2.2 (.fieldLink RX8 64 "TestHall" "learnerCount" "I") (by decide +kernel)) rfl rfl dX8_lineUpWaiting_11 ?_
    obtain ⟨ht_, hf_⟩ := h
    refine lv_icmp_ge (tgt := 53) X.1 X.2.1 dX8_lineUpWaiting_14 (by decide) (fun c_ => ?_) (fun c_ => ?_)
    · have h := ht_ c_
      exact r_vret X hr hlk hw h dX8_lineUpWaiting_53
    · have h := hf_ c_
      refine lv_aload_n X.1 X.2.1 dX8_lineUpWaiting_17 rfl (lv_at hl 0 rfl) ?_
      refine r_gf X inX8_lineUpWaiting_X8 hw 0 rfl rfl 1 (by decide) (X.2.2.2.2 (.fieldLink RX8 18 "TestHall" "learners" "[LTestHall$Learner;") (by decide +kernel)) rfl rfl dX8_lineUpWaiting_18 ?_
      refine lv_iload_n X.1 X.2.1 dX8_lineUpWaiting_21 rfl (lv_at hl 1 rfl) ?_
      obtain ⟨hi_, h⟩ := h
      refine r_lrn X hw hi_.1 hi_.2 dX8_lineUpWaiting_22 ?_
      obtain ⟨hj_, h⟩ := h
      refine r_gf X inX8_lineUpWaiting_X1 hw (49 + (x1.toNatClampNeg)) (cw_lrn hj_) rfl 8 (by decide) (X.2.2.2.2 (.fieldLink RX8 140 "TestHall$Learner" "state" "I") (by decide +kernel)) rfl rfl dX8_lineUpWaiting_23 ?_
      obtain ⟨ht_, hf_⟩ := h
      refine lv_if_ne (tgt := 47) X.1 X.2.1 dX8_lineUpWaiting_26 (by decide) (fun c_ => ?_) (fun c_ => ?_)
      · have h := ht_ c_
        exact bX8_lineUpWaiting_47 X hr hlk hK9 M x1 _ _ _ h hw (lv_sub hl [0, 1] rfl)
      · have h := hf_ c_
        refine lv_aload_n X.1 X.2.1 dX8_lineUpWaiting_29 rfl (lv_at hl 0 rfl) ?_
        refine r_gf X inX8_lineUpWaiting_X8 hw 0 rfl rfl 2 (by decide) (X.2.2.2.2 (.fieldLink RX8 25 "TestHall" "line" "LTestHall$Line;") (by decide +kernel)) rfl rfl dX8_lineUpWaiting_30 ?_
        refine lv_iload_n X.1 X.2.1 dX8_lineUpWaiting_33 rfl (lv_at hl 1 rfl) ?_
        refine lv_aload_n X.1 X.2.1 dX8_lineUpWaiting_34 rfl (lv_at hl 0 rfl) ?_
        refine lv_aload_n X.1 X.2.1 dX8_lineUpWaiting_35 rfl (lv_at hl 0 rfl) ?_
        refine r_gf X inX8_lineUpWaiting_X8 hw 0 rfl rfl 1 (by decide) (X.2.2.2.2 (.fieldLink RX8 18 "TestHall" "learners" "[LTestHall$Learner;") (by decide +kernel)) rfl rfl dX8_lineUpWaiting_36 ?_
        refine lv_iload_n X.1 X.2.1 dX8_lineUpWaiting_39 rfl (lv_at hl 1 rfl) ?_
        obtain ⟨hi_, h⟩ := h
        refine r_lrn X hw hi_.1 hi_.2 dX8_lineUpWaiting_40 ?_
        refine r_Vi (As := [.ref (η (49 + (x1.toNatClampNeg)))]) (rest := [.int x1, .ref (η 2)]) X cN_ok (kX8_rankOf h) (cwV 1 X.2.2.2.2 gX8_lineUpWaiting_X8_rankOf rfl rfl rfl (by decide +kernel) ⟨Nat.le_of_ble_eq_true rfl, Nat.le_of_ble_eq_true rfl⟩) hw 0 7 rfl rfl rfl hl.1 rfl (Nat.le_of_ble_eq_true rfl) dX8_lineUpWaiting_41 (fun r_2 M_1 H locs h hw => ?_)
        refine r_Vv (As := [.int x1, .int r_2]) (rest := []) X cN_ok (kX2_add h) (cwV 2 X.2.2.2.2 gX8_lineUpWaiting_X2_add rfl rfl rfl (by decide +kernel) ⟨Nat.le_of_ble_eq_true rfl, Nat.le_of_ble_eq_true rfl⟩) hw 2 2 rfl rfl rfl hl.1 rfl (Nat.le_of_ble_eq_true rfl) dX8_lineUpWaiting_44 (fun M_3 H locs h hw => ?_)
        exact bX8_lineUpWaiting_47 X hr hlk hK9 M_3 x1 _ _ _ h hw (lv_sub hl [0, 1] rfl)
def wX8_lineUpWaiting (n : Nat) (M : Sg) (Q : Sg → Prop) : Prop := (wX2_clear n M (fun M_1 => (∃ g9_ : Nat, vX8_lineUpWaiting_9 n Q g9_ M_1 (0 : Int32))))
set_option maxHeartbeats 4000000 in
set_option maxRecDepth 100000 in
theorem kX8_lineUpWaiting {l : Launch} {D : va_G} {κ : Nat → ClassId} {η : Nat → Nat} {σ : (Nat → Nat) × (Nat → Nat)} {n : Nat} {M : Sg} {Q : Sg → Prop} (h : wX8_lineUpWaiting n M Q) : Kv (cN σ) D (Ky κ) (cw κ η n) l yX8_lineUpWaiting wsX8_lineUpWaiting rmX8_lineUpWaiting [.ref (η 0)] M Q := by
  refine ofW_g (Qc := fun A => Qv D (Ky κ) (cw κ η n) A Q) (cc := cX8_lineUpWaiting) (maxL := 2) (ret := none) (by decide) rfl (Nat.le_of_ble_eq_true rfl) ?_
  intro p e s m args below meth c A ls X hr hlk hw hl
  have hl : lv_has ls 2 [(0, .ref (η 0))] := hl
  refine lv_aload_n X.1 X.2.1 dX8_lineUpWaiting_0 rfl (lv_at hl 0 rfl) ?_
  refine r_gf X inX8_lineUpWaiting_X8 hw 0 rfl rfl 2 (by decide) (X.2.2.2.2 (.fieldLink RX8 25 "TestHall" "line" "LTestHall$Line;") (by decide +kernel)) rfl rfl dX8_lineUpWaiting_1 ?_
  refine r_Vv (As := []) (rest := []) X cN_ok (kX2_clear h) (cwV 0 X.2.2.2.2 gX8_lineUpWaiting_X2_clear rfl rfl rfl (by decide +kernel) ⟨Nat.le_of_ble_eq_true rfl, Nat.le_of_ble_eq_true rfl⟩) hw 2 2 rfl rfl rfl hl.1 rfl (Nat.le_of_ble_eq_true rfl) dX8_lineUpWaiting_4 (fun M_1 H locs h hw => ?_)
  refine lv_iconst (v := (0 : Int32)) X.1 X.2.1 dX8_lineUpWaiting_7 (by decide) ?_
  refine lv_istore_n (lv' := [(1, .int (0 : Int32)), (0, .ref (η 0))]) X.1 X.2.1 dX8_lineUpWaiting_8 rfl hl (by decide) rfl (fun ls hl => ?_)
  obtain ⟨f_, h⟩ := h
  exact bX8_lineUpWaiting_9 X hr hlk f_ M_1 (0 : Int32) _ _ _ h hw (lv_sub hl [1, 0] rfl)

abbrev rmX8_deal : Room := { frames := 7, cells := 0, slots := 0, locals := 164 }
def wX8_deal (n : Nat) (M : Sg) (Q : Sg → Int32 → Prop) : Prop := (wX8_lineUpWaiting n M (fun M_1 => (wX8_dealLine n M_1 (fun M_3 r_4 => (Q M_3 r_4)))))
set_option maxHeartbeats 4000000 in
set_option maxRecDepth 100000 in
theorem kX8_deal {l : Launch} {D : va_G} {κ : Nat → ClassId} {η : Nat → Nat} {σ : (Nat → Nat) × (Nat → Nat)} {n : Nat} {M : Sg} {Q : Sg → Int32 → Prop} (h : wX8_deal n M Q) : Ki (cN σ) D (Ky κ) (cw κ η n) l yX8_deal wsX8_deal rmX8_deal [.ref (η 0)] M Q := by
  refine ofW_g (Qc := fun A => Qi D (Ky κ) (cw κ η n) A Q) (cc := cX8_deal) (maxL := 1) (ret := (some .int)) (by decide) rfl (Nat.le_of_ble_eq_true rfl) ?_
  intro p e s m args below meth c A ls X hr hlk hw hl
  have hl : lv_has ls 1 [(0, .ref (η 0))] := hl
  refine lv_aload_n X.1 X.2.1 dX8_deal_0 rfl (lv_at hl 0 rfl) ?_
  refine r_Vv (As := []) (rest := []) X cN_ok (kX8_lineUpWaiting h) (cwV 0 X.2.2.2.2 gX8_deal_X8_lineUpWaiting rfl rfl rfl (by decide +kernel) ⟨Nat.le_of_ble_eq_true rfl, Nat.le_of_ble_eq_true rfl⟩) hw 0 7 rfl rfl rfl hl.1 rfl (Nat.le_of_ble_eq_true rfl) dX8_deal_1 (fun M_1 H locs h hw => ?_)
  refine lv_aload_n X.1 X.2.1 dX8_deal_4 rfl (lv_at hl 0 rfl) ?_
  refine r_Vi (As := []) (rest := []) X cN_ok (kX8_dealLine h) (cwV 0 X.2.2.2.2 gX8_deal_X8_dealLine rfl rfl rfl (by decide +kernel) ⟨Nat.le_of_ble_eq_true rfl, Nat.le_of_ble_eq_true rfl⟩) hw 0 7 rfl rfl rfl hl.1 rfl (Nat.le_of_ble_eq_true rfl) dX8_deal_5 (fun r_4 M_3 H locs h hw => ?_)
  exact r_ret X hr hlk hw h dX8_deal_8

theorem inX8_isSuiting_X1 : ∀ w ∈ wsX10, w ∈ wsX8_isSuiting := fun w h => List.mem_cons_of_mem _ (List.mem_append_left _ (List.mem_append_left _ (List.mem_append_right _ h)))
theorem inX8_isSuiting_X8 : ∀ w ∈ wsX80, w ∈ wsX8_isSuiting := fun w h => List.mem_cons_of_mem _ (List.mem_append_left _ (List.mem_append_right _ h))
abbrev rmX8_isSuiting : Room := { frames := 1, cells := 0, slots := 0, locals := 23 }
def vX8_isSuiting_34 (n : Nat) (Q : Sg → Int32 → Prop) (M : Sg) (x1 : Int32) (x2 : Nat) (x3 : Int32) (s0 : Int32) : Prop := ((s0 = 0 → (Q M (0 : Int32))) ∧ (¬ s0 = 0 → (wX8_examinerOf n M x1 (fun M_1 r_2 => (wX0_townOf n M_1 r_2 x3 (fun M_3 r_4 => (x2 < n ∧ ((¬ r_4 = (gA M_3 52 x2) → (Q M_3 (0 : Int32))) ∧ (r_4 = (gA M_3 52 x2) → (Q M_3 (1 : Int32)))))))))))
set_option maxHeartbeats 4000000 in
set_option maxRecDepth 100000 in
theorem bX8_isSuiting_34 {p : Program} {l : Launch} {e : Env} {s : State} {m : MethodId} {args : Array Value} {below : List Frame} {meth : Method} {c : Code} {D : va_G} {κ : Nat → ClassId} {η : Nat → Nat} {σ : (Nat → Nat) × (Nat → Nat)} {A : Nat → Prop} {n : Nat} {Q : Sg → Int32 → Prop} (X : CallFix p m c cX8_isSuiting 5 s args wsX8_isSuiting RX8) (hr : meth.sig.returnType = (some .boolean)) (hlk : meth.locks = false) : ∀ (M : Sg) (x1 : Int32) (x2 : Nat) (x3 : Int32) (s0 : Int32) (H : Heap) (locs : List Loc) (ls : Array Slot), vX8_isSuiting_34 n Q M x1 x2 x3 s0 → Wd (cN σ) D (Ky κ) A s (cw κ η n M) H locs → lv_has ls 5 [(0, .ref (η 0)), (1, .int x1), (2, .ref (η (49 + x2))), (3, .int x3)] → W p l e rmX8_isSuiting s m args below meth c H locs 0 0 (MQ below (Qi D (Ky κ) (cw κ η n) A Q) args s 0 0 A) (F0 m 34 ls [.int s0]) := by
  intro M x1 x2 x3 s0 H locs ls h hw hl
  refine lv_istore (lv' := [(4, .int s0), (0, .ref (η 0)), (1, .int x1), (2, .ref (η (49 + x2))), (3, .int x3)]) X.1 X.2.1 dX8_isSuiting_34 hl (by decide) rfl (fun ls hl => ?_)
  refine lv_iload X.1 X.2.1 dX8_isSuiting_36 (lv_at hl 0 rfl) ?_
  obtain ⟨ht_, hf_⟩ := h
  refine lv_if_eq (tgt := 64) X.1 X.2.1 dX8_isSuiting_38 (by decide) (fun c_ => ?_) (fun c_ => ?_)
  · have h := ht_ c_
    refine lv_iconst (v := (0 : Int32)) X.1 X.2.1 dX8_isSuiting_64 (by decide) ?_
    exact r_zret X hr hlk hw rfl h dX8_isSuiting_65
  · have h := hf_ c_
    refine lv_aload_n X.1 X.2.1 dX8_isSuiting_41 rfl (lv_at hl 1 rfl) ?_
    refine r_gf X inX8_isSuiting_X8 hw 0 rfl rfl 0 (by decide) (X.2.2.2.2 (.fieldLink RX8 12 "TestHall" "calendar" "LTestHall$Calendar;") (by decide +kernel)) rfl rfl dX8_isSuiting_42 ?_
    refine lv_iload_n X.1 X.2.1 dX8_isSuiting_45 rfl (lv_at hl 2 rfl) ?_
    refine r_Si (As := [.int x1]) (rest := [.ref (η 1)]) X cN_ok (kX8_examinerOf h) (va_cwS 1 X.2.2.2.2 gX8_isSuiting_X8_examinerOf rfl rfl rfl (by decide +kernel) ⟨Nat.le_of_ble_eq_true rfl, Nat.le_of_ble_eq_true rfl⟩) hw rfl hl.1 rfl (Nat.le_of_ble_eq_true rfl) dX8_isSuiting_46 (fun r_2 M_1 H locs h hw => ?_)
    refine lv_iload_n X.1 X.2.1 dX8_isSuiting_49 rfl (lv_at hl 4 rfl) ?_
    refine r_Vi (As := [.int r_2, .int x3]) (rest := []) X cN_ok (kX0_townOf h) (cwV 2 X.2.2.2.2 gX8_isSuiting_X0_townOf rfl rfl rfl (by decide +kernel) ⟨Nat.le_of_ble_eq_true rfl, Nat.le_of_ble_eq_true rfl⟩) hw 1 0 rfl rfl rfl hl.1 rfl (Nat.le_of_ble_eq_true rfl) dX8_isSuiting_50 (fun r_4 M_3 H locs h hw => ?_)
    refine lv_aload_n X.1 X.2.1 dX8_isSuiting_53 rfl (lv_at hl 3 rfl) ?_
    obtain ⟨hj_, h⟩ := h
    refine r_gf X inX8_isSuiting_X1 hw (49 + x2) (cw_lrn hj_) rfl 2 (by decide) (X.2.2.2.2 (.fieldLink RX8 97 "TestHall$Learner" "town" "I") (by decide +kernel)) rfl rfl dX8_isSuiting_54 ?_
    obtain ⟨ht_, hf_⟩ := h
    refine lv_icmp_ne (tgt := 64) X.1 X.2.1 dX8_isSuiting_57 (by decide) (fun c_ => ?_) (fun c_ => ?_)
    · have h := ht_ c_
      refine lv_iconst (v := (0 : Int32)) X.1 X.2.1 dX8_isSuiting_64 (by decide) ?_
      exact r_zret X hr hlk hw rfl h dX8_isSuiting_65
    · have h := hf_ c_
      refine lv_iconst (v := (1 : Int32)) X.1 X.2.1 dX8_isSuiting_60 (by decide) ?_
      refine lv_goto (tgt := 65) X.1 X.2.1 dX8_isSuiting_61 (by decide) ?_
      exact r_zret X hr hlk hw rfl h dX8_isSuiting_65
def vX8_isSuiting_33 (n : Nat) (Q : Sg → Int32 → Prop) (M : Sg) (x1 : Int32) (x2 : Nat) (x3 : Int32) : Prop := (vX8_isSuiting_34 n Q M x1 x2 x3 (0 : Int32))
set_option maxHeartbeats 4000000 in
set_option maxRecDepth 100000 in
theorem bX8_isSuiting_33 {p : Program} {l : Launch} {e : Env} {s : State} {m : MethodId} {args : Array Value} {below : List Frame} {meth : Method} {c : Code} {D : va_G} {κ : Nat → ClassId} {η : Nat → Nat} {σ : (Nat → Nat) × (Nat → Nat)} {A : Nat → Prop} {n : Nat} {Q : Sg → Int32 → Prop} (X : CallFix p m c cX8_isSuiting 5 s args wsX8_isSuiting RX8) (hr : meth.sig.returnType = (some .boolean)) (hlk : meth.locks = false) : ∀ (M : Sg) (x1 : Int32) (x2 : Nat) (x3 : Int32) (H : Heap) (locs : List Loc) (ls : Array Slot), vX8_isSuiting_33 n Q M x1 x2 x3 → Wd (cN σ) D (Ky κ) A s (cw κ η n M) H locs → lv_has ls 5 [(0, .ref (η 0)), (1, .int x1), (2, .ref (η (49 + x2))), (3, .int x3)] → W p l e rmX8_isSuiting s m args below meth c H locs 0 0 (MQ below (Qi D (Ky κ) (cw κ η n) A Q) args s 0 0 A) (F0 m 33 ls []) := by
  intro M x1 x2 x3 H locs ls h hw hl
  refine lv_iconst (v := (0 : Int32)) X.1 X.2.1 dX8_isSuiting_33 (by decide) ?_
  exact bX8_isSuiting_34 X hr hlk M x1 x2 x3 (0 : Int32) _ _ _ h hw (lv_sub hl [0, 1, 2, 3] rfl)
def wX8_isSuiting (n : Nat) (M : Sg) (a1 : Int32) (a2 : Nat) (Q : Sg → Int32 → Prop) : Prop := (wX8_dayOf n M a1 (fun M_1 r_2 => (a2 < n ∧ ((r_2 < (gA M_1 56 a2) → (vX8_isSuiting_33 n Q M_1 a1 a2 r_2)) ∧ (¬ r_2 < (gA M_1 56 a2) → (a2 < n ∧ ((r_2 < (gA M_1 54 a2) → (vX8_isSuiting_33 n Q M_1 a1 a2 r_2)) ∧ (¬ r_2 < (gA M_1 54 a2) → (a2 < n ∧ (((gA M_1 55 a2) < r_2 → (vX8_isSuiting_33 n Q M_1 a1 a2 r_2)) ∧ (¬ (gA M_1 55 a2) < r_2 → (vX8_isSuiting_34 n Q M_1 a1 a2 r_2 (1 : Int32)))))))))))))
set_option maxHeartbeats 4000000 in
set_option maxRecDepth 100000 in
theorem kX8_isSuiting {l : Launch} {D : va_G} {κ : Nat → ClassId} {η : Nat → Nat} {σ : (Nat → Nat) × (Nat → Nat)} {n : Nat} {M : Sg} {a1 : Int32} {a2 : Nat} {Q : Sg → Int32 → Prop} (h : wX8_isSuiting n M a1 a2 Q) : Ki (cN σ) D (Ky κ) (cw κ η n) l yX8_isSuiting wsX8_isSuiting rmX8_isSuiting [.ref (η 0), .int a1, .ref (η (49 + a2))] M Q := by
  refine ofW_g (Qc := fun A => Qi D (Ky κ) (cw κ η n) A Q) (cc := cX8_isSuiting) (maxL := 5) (ret := (some .boolean)) (by decide) rfl (Nat.le_of_ble_eq_true rfl) ?_
  intro p e s m args below meth c A ls X hr hlk hw hl
  have hl : lv_has ls 5 [(0, .ref (η 0)), (1, .int a1), (2, .ref (η (49 + a2)))] := hl
  refine lv_iload_n X.1 X.2.1 dX8_isSuiting_0 rfl (lv_at hl 1 rfl) ?_
  refine r_Si (As := [.int a1]) (rest := []) X cN_ok (kX8_dayOf h) (va_cwS 1 X.2.2.2.2 gX8_isSuiting_X8_dayOf rfl rfl rfl (by decide +kernel) ⟨Nat.le_of_ble_eq_true rfl, Nat.le_of_ble_eq_true rfl⟩) hw rfl hl.1 rfl (Nat.le_of_ble_eq_true rfl) dX8_isSuiting_1 (fun r_2 M_1 H locs h hw => ?_)
  refine lv_istore_n (lv' := [(3, .int r_2), (0, .ref (η 0)), (1, .int a1), (2, .ref (η (49 + a2)))]) X.1 X.2.1 dX8_isSuiting_4 rfl hl (by decide) rfl (fun ls hl => ?_)
  refine lv_iload_n X.1 X.2.1 dX8_isSuiting_5 rfl (lv_at hl 0 rfl) ?_
  refine lv_aload_n X.1 X.2.1 dX8_isSuiting_6 rfl (lv_at hl 3 rfl) ?_
  obtain ⟨hj_, h⟩ := h
  refine r_gf X inX8_isSuiting_X1 hw (49 + a2) (cw_lrn hj_) rfl 6 (by decide) (X.2.2.2.2 (.fieldLink RX8 109 "TestHall$Learner" "wish" "I") (by decide +kernel)) rfl rfl dX8_isSuiting_7 ?_
  obtain ⟨ht_, hf_⟩ := h
  refine lv_icmp_lt (tgt := 33) X.1 X.2.1 dX8_isSuiting_10 (by decide) (fun c_ => ?_) (fun c_ => ?_)
  · have h := ht_ c_
    exact bX8_isSuiting_33 X hr hlk M_1 a1 a2 r_2 _ _ _ h hw (lv_sub hl [1, 2, 3, 0] rfl)
  · have h := hf_ c_
    refine lv_iload_n X.1 X.2.1 dX8_isSuiting_13 rfl (lv_at hl 0 rfl) ?_
    refine lv_aload_n X.1 X.2.1 dX8_isSuiting_14 rfl (lv_at hl 3 rfl) ?_
    obtain ⟨hj_, h⟩ := h
    refine r_gf X inX8_isSuiting_X1 hw (49 + a2) (cw_lrn hj_) rfl 4 (by decide) (X.2.2.2.2 (.fieldLink RX8 103 "TestHall$Learner" "from" "I") (by decide +kernel)) rfl rfl dX8_isSuiting_15 ?_
    obtain ⟨ht_, hf_⟩ := h
    refine lv_icmp_lt (tgt := 33) X.1 X.2.1 dX8_isSuiting_18 (by decide) (fun c_ => ?_) (fun c_ => ?_)
    · have h := ht_ c_
      exact bX8_isSuiting_33 X hr hlk M_1 a1 a2 r_2 _ _ _ h hw (lv_sub hl [1, 2, 3, 0] rfl)
    · have h := hf_ c_
      refine lv_iload_n X.1 X.2.1 dX8_isSuiting_21 rfl (lv_at hl 0 rfl) ?_
      refine lv_aload_n X.1 X.2.1 dX8_isSuiting_22 rfl (lv_at hl 3 rfl) ?_
      obtain ⟨hj_, h⟩ := h
      refine r_gf X inX8_isSuiting_X1 hw (49 + a2) (cw_lrn hj_) rfl 5 (by decide) (X.2.2.2.2 (.fieldLink RX8 106 "TestHall$Learner" "to" "I") (by decide +kernel)) rfl rfl dX8_isSuiting_23 ?_
      obtain ⟨ht_, hf_⟩ := h
      refine lv_icmp_gt (tgt := 33) X.1 X.2.1 dX8_isSuiting_26 (by decide) (fun c_ => ?_) (fun c_ => ?_)
      · have h := ht_ c_
        exact bX8_isSuiting_33 X hr hlk M_1 a1 a2 r_2 _ _ _ h hw (lv_sub hl [1, 2, 3, 0] rfl)
      · have h := hf_ c_
        refine lv_iconst (v := (1 : Int32)) X.1 X.2.1 dX8_isSuiting_29 (by decide) ?_
        refine lv_goto (tgt := 34) X.1 X.2.1 dX8_isSuiting_30 (by decide) ?_
        exact bX8_isSuiting_34 X hr hlk M_1 a1 a2 r_2 (1 : Int32) _ _ _ h hw (lv_sub hl [1, 2, 3, 0] rfl)

theorem inX8_firstToMove_X1 : ∀ w ∈ wsX10, w ∈ wsX8_firstToMove := fun w h => List.mem_cons_of_mem _ (List.mem_append_left _ (List.mem_append_right _ h))
theorem inX8_firstToMove_X2 : ∀ w ∈ wsX20, w ∈ wsX8_firstToMove := fun w h => List.mem_cons_of_mem _ (List.mem_append_left _ (List.mem_append_left _ (List.mem_append_right _ h)))
theorem inX8_firstToMove_X8 : ∀ w ∈ wsX80, w ∈ wsX8_firstToMove := fun w h => List.mem_cons_of_mem _ (List.mem_append_left _ (List.mem_append_left _ (List.mem_append_left _ (List.mem_append_right _ h))))
abbrev rmX8_firstToMove : Room := { frames := 2, cells := 0, slots := 0, locals := 47 }
def vX8_firstToMove_50 (n : Nat) (K2 : Sg → Int32 → Int32 → Prop) (Q : Sg → Option Nat → Prop) (M : Sg) (x1 : Int32) (x2 : Int32) : Prop := (∀ (x_1 : Int32), x_1 = x2 + (1 : Int32) → (K2 M x1 x_1))
set_option maxHeartbeats 4000000 in
set_option maxRecDepth 100000 in
theorem bX8_firstToMove_50 {p : Program} {l : Launch} {e : Env} {s : State} {m : MethodId} {args : Array Value} {below : List Frame} {meth : Method} {c : Code} {D : va_G} {κ : Nat → ClassId} {η : Nat → Nat} {σ : (Nat → Nat) × (Nat → Nat)} {A : Nat → Prop} {n : Nat} {Q : Sg → Option Nat → Prop} {K2 : Sg → Int32 → Int32 → Prop} (X : CallFix p m c cX8_firstToMove 4 s args wsX8_firstToMove RX8) (hr : meth.sig.returnType = (some (.object "TestHall$Learner"))) (hlk : meth.locks = false) (hK2 : ∀ (M : Sg) (x1 : Int32) (x2 : Int32) (H : Heap) (locs : List Loc) (ls : Array Slot), K2 M x1 x2 → Wd (cN σ) D (Ky κ) A s (cw κ η n M) H locs → lv_has ls 4 [(0, .ref (η 0)), (1, .int x1), (2, .int x2)] → W p l e rmX8_firstToMove s m args below meth c H locs 0 0 (MQ below (Qq D (Ky κ) (cw κ η n) (fun j => η (49 + j)) A Q) args s 0 0 A) (F0 m 2 ls [])) : ∀ (M : Sg) (x1 : Int32) (x2 : Int32) (H : Heap) (locs : List Loc) (ls : Array Slot), vX8_firstToMove_50 n K2 Q M x1 x2 → Wd (cN σ) D (Ky κ) A s (cw κ η n M) H locs → lv_has ls 4 [(0, .ref (η 0)), (1, .int x1), (2, .int x2)] → W p l e rmX8_firstToMove s m args below meth c H locs 0 0 (MQ below (Qq D (Ky κ) (cw κ η n) (fun j => η (49 + j)) A Q) args s 0 0 A) (F0 m 50 ls []) := by
  intro M x1 x2 H locs ls h hw hl
  obtain ⟨x_1, ex_1⟩ : ∃ y : Int32, y = x2 + (1 : Int32) := ⟨_, rfl⟩
  have h := h x_1 ex_1
  refine lv_iinc (v := x_1) (lv' := [(2, .int x_1), (0, .ref (η 0)), (1, .int x1)]) X.1 X.2.1 dX8_firstToMove_50 hl (k := 2) rfl (by rw [ex_1]; rfl) (by decide) rfl (fun ls hl => ?_)
  refine lv_goto (tgt := 2) X.1 X.2.1 dX8_firstToMove_53 (by decide) ?_
  exact hK2 M x1 x_1 _ _ _ h hw (lv_sub hl [1, 2, 0] rfl)
def vX8_firstToMove_2 (n : Nat) (Q : Sg → Option Nat → Prop) : Nat → Sg → Int32 → Int32 → Prop
  | 0, _, _, _ => False
  | f2_ + 1, M, x1, x2 => (((gI M 4) ≤ x2 → (Q M none)) ∧ (¬ (gI M 4) ≤ x2 → (vp_in x2 60 ∧ (wX8_find n M (gA M 5 x2.toNatClampNeg) (fun M_1 r_2 => ((r_2 = none → (vX8_firstToMove_50 n (vX8_firstToMove_2 n Q f2_) Q M_1 x1 x2)) ∧ (∀ j_3 : Nat, r_2 = some j_3 → (j_3 < n ∧ (((gA M_1 59 j_3) ≤ x1 → (vX8_firstToMove_50 n (vX8_firstToMove_2 n Q f2_) Q M_1 x1 x2)) ∧ (¬ (gA M_1 59 j_3) ≤ x1 → (wX8_isSuiting n M_1 x1 j_3 (fun M_4 r_5 => ((r_5 = 0 → (vX8_firstToMove_50 n (vX8_firstToMove_2 n Q f2_) Q M_4 x1 x2)) ∧ (¬ r_5 = 0 → (Q M_4 (some j_3))))))))))))))))
set_option maxHeartbeats 4000000 in
set_option maxRecDepth 100000 in
theorem bX8_firstToMove_2 {p : Program} {l : Launch} {e : Env} {s : State} {m : MethodId} {args : Array Value} {below : List Frame} {meth : Method} {c : Code} {D : va_G} {κ : Nat → ClassId} {η : Nat → Nat} {σ : (Nat → Nat) × (Nat → Nat)} {A : Nat → Prop} {n : Nat} {Q : Sg → Option Nat → Prop} (X : CallFix p m c cX8_firstToMove 4 s args wsX8_firstToMove RX8) (hr : meth.sig.returnType = (some (.object "TestHall$Learner"))) (hlk : meth.locks = false) : ∀ (f_ : Nat) (M : Sg) (x1 : Int32) (x2 : Int32) (H : Heap) (locs : List Loc) (ls : Array Slot), vX8_firstToMove_2 n Q f_ M x1 x2 → Wd (cN σ) D (Ky κ) A s (cw κ η n M) H locs → lv_has ls 4 [(0, .ref (η 0)), (1, .int x1), (2, .int x2)] → W p l e rmX8_firstToMove s m args below meth c H locs 0 0 (MQ below (Qq D (Ky κ) (cw κ η n) (fun j => η (49 + j)) A Q) args s 0 0 A) (F0 m 2 ls []) := by
  intro f_
  induction f_ with
  | zero => intro M x1 x2 H locs ls h; exact h.elim
  | succ f_ hK2 =>
    intro M x1 x2 H locs ls h hw hl
    refine lv_iload_n X.1 X.2.1 dX8_firstToMove_2 rfl (lv_at hl 2 rfl) ?_
    refine lv_aload_n X.1 X.2.1 dX8_firstToMove_3 rfl (lv_at hl 0 rfl) ?_
    refine r_gf X inX8_firstToMove_X8 hw 0 rfl rfl 2 (by decide) (X.2.2.2.2 (.fieldLink RX8 25 "TestHall" "line" "LTestHall$Line;") (by decide +kernel)) rfl rfl dX8_firstToMove_4 ?_
    refine r_gf X inX8_firstToMove_X2 hw 2 rfl rfl 2 (by decide) (X.2.2.2.2 (.fieldLink RX8 173 "TestHall$Line" "size" "I") (by decide +kernel)) rfl rfl dX8_firstToMove_7 ?_
    obtain ⟨ht_, hf_⟩ := h
    refine lv_icmp_ge (tgt := 56) X.1 X.2.1 dX8_firstToMove_10 (by decide) (fun c_ => ?_) (fun c_ => ?_)
    · have h := ht_ c_
      refine lv_null X.1 X.2.1 dX8_firstToMove_56 ?_
      exact r_qretN X hr hlk hw h dX8_firstToMove_57
    · have h := hf_ c_
      refine lv_aload_n X.1 X.2.1 dX8_firstToMove_13 rfl (lv_at hl 0 rfl) ?_
      refine lv_aload_n X.1 X.2.1 dX8_firstToMove_14 rfl (lv_at hl 0 rfl) ?_
      refine r_gf X inX8_firstToMove_X8 hw 0 rfl rfl 2 (by decide) (X.2.2.2.2 (.fieldLink RX8 25 "TestHall" "line" "LTestHall$Line;") (by decide +kernel)) rfl rfl dX8_firstToMove_15 ?_
      refine r_gf X inX8_firstToMove_X2 hw 2 rfl rfl 0 (by decide) (X.2.2.2.2 (.fieldLink RX8 276 "TestHall$Line" "numbers" "[I") (by decide +kernel)) rfl rfl dX8_firstToMove_18 ?_
      refine lv_iload_n X.1 X.2.1 dX8_firstToMove_21 rfl (lv_at hl 2 rfl) ?_
      obtain ⟨hi_, h⟩ := h
      refine r_ial X hw 14 0 rfl rfl hi_ dX8_firstToMove_22 ?_
      refine r_Vq (As := [.int (gA M 5 x2.toNatClampNeg)]) (rest := []) X cN_ok (kX8_find h) (cwV 1 X.2.2.2.2 gX8_firstToMove_X8_find rfl rfl rfl (by decide +kernel) ⟨Nat.le_of_ble_eq_true rfl, Nat.le_of_ble_eq_true rfl⟩) hw 0 7 rfl rfl rfl hl.1 rfl (Nat.le_of_ble_eq_true rfl) dX8_firstToMove_23 (fun M_1 H locs h hw => ?_) (fun j_3 M_1 H locs h hw => ?_)
      · have h := h.1 rfl
        refine lv_astore_nN (lv' := [(3, .null), (0, .ref (η 0)), (1, .int x1), (2, .int x2)]) X.1 X.2.1 dX8_firstToMove_26 rfl hl (by decide) rfl (fun ls hl => ?_)
        refine lv_aload_nN X.1 X.2.1 dX8_firstToMove_27 rfl (lv_at hl 0 rfl) ?_
        refine lv_ifnullN (tgt := 50) X.1 X.2.1 dX8_firstToMove_28 (by decide) ?_
        exact bX8_firstToMove_50 X hr hlk hK2 M_1 x1 x2 _ _ _ h hw (lv_sub hl [1, 2, 3] rfl)
      · have h := h.2 j_3 rfl
        refine lv_astore_n (lv' := [(3, .ref (η (49 + j_3))), (0, .ref (η 0)), (1, .int x1), (2, .int x2)]) X.1 X.2.1 dX8_firstToMove_26 rfl hl (by decide) rfl (fun ls hl => ?_)
        refine lv_aload_n X.1 X.2.1 dX8_firstToMove_27 rfl (lv_at hl 0 rfl) ?_
        refine lv_ifnull X.1 X.2.1 dX8_firstToMove_28 ?_
        refine lv_aload_n X.1 X.2.1 dX8_firstToMove_31 rfl (lv_at hl 0 rfl) ?_
        obtain ⟨hj_, h⟩ := h
        refine r_gf X inX8_firstToMove_X1 hw (49 + j_3) (cw_lrn hj_) rfl 9 (by decide) (X.2.2.2.2 (.fieldLink RX8 143 "TestHall$Learner" "slot" "I") (by decide +kernel)) rfl rfl dX8_firstToMove_32 ?_
        refine lv_iload_n X.1 X.2.1 dX8_firstToMove_35 rfl (lv_at hl 2 rfl) ?_
        obtain ⟨ht_, hf_⟩ := h
        refine lv_icmp_le (tgt := 50) X.1 X.2.1 dX8_firstToMove_36 (by decide) (fun c_ => ?_) (fun c_ => ?_)
        · have h := ht_ c_
          exact bX8_firstToMove_50 X hr hlk hK2 M_1 x1 x2 _ _ _ h hw (lv_sub hl [1, 2, 3] rfl)
        · have h := hf_ c_
          refine lv_aload_n X.1 X.2.1 dX8_firstToMove_39 rfl (lv_at hl 1 rfl) ?_
          refine lv_iload_n X.1 X.2.1 dX8_firstToMove_40 rfl (lv_at hl 2 rfl) ?_
          refine lv_aload_n X.1 X.2.1 dX8_firstToMove_41 rfl (lv_at hl 0 rfl) ?_
          refine r_Vi (As := [.int x1, .ref (η (49 + j_3))]) (rest := []) X cN_ok (kX8_isSuiting h) (cwV 2 X.2.2.2.2 gX8_firstToMove_X8_isSuiting rfl rfl rfl (by decide +kernel) ⟨Nat.le_of_ble_eq_true rfl, Nat.le_of_ble_eq_true rfl⟩) hw 0 7 rfl rfl rfl hl.1 rfl (Nat.le_of_ble_eq_true rfl) dX8_firstToMove_42 (fun r_5 M_4 H locs h hw => ?_)
          obtain ⟨ht_, hf_⟩ := h
          refine lv_if_eq (tgt := 50) X.1 X.2.1 dX8_firstToMove_45 (by decide) (fun c_ => ?_) (fun c_ => ?_)
          · have h := ht_ c_
            exact bX8_firstToMove_50 X hr hlk hK2 M_4 x1 x2 _ _ _ h hw (lv_sub hl [1, 2, 3] rfl)
          · have h := hf_ c_
            refine lv_aload_n X.1 X.2.1 dX8_firstToMove_48 rfl (lv_at hl 0 rfl) ?_
            exact r_qret (ad := fun j => η (49 + j)) X hr hlk hw h dX8_firstToMove_49
def wX8_firstToMove (n : Nat) (M : Sg) (a1 : Int32) (Q : Sg → Option Nat → Prop) : Prop := (∃ g2_ : Nat, vX8_firstToMove_2 n Q g2_ M a1 (0 : Int32))
set_option maxHeartbeats 4000000 in
set_option maxRecDepth 100000 in
theorem kX8_firstToMove {l : Launch} {D : va_G} {κ : Nat → ClassId} {η : Nat → Nat} {σ : (Nat → Nat) × (Nat → Nat)} {n : Nat} {M : Sg} {a1 : Int32} {Q : Sg → Option Nat → Prop} (h : wX8_firstToMove n M a1 Q) : Kq (cN σ) D (Ky κ) (cw κ η n) (fun j => η (49 + j)) l yX8_firstToMove wsX8_firstToMove rmX8_firstToMove [.ref (η 0), .int a1] M Q := by
  refine ofW_g (Qc := fun A => Qq D (Ky κ) (cw κ η n) (fun j => η (49 + j)) A Q) (cc := cX8_firstToMove) (maxL := 4) (ret := (some (.object "TestHall$Learner"))) (by decide) rfl (Nat.le_of_ble_eq_true rfl) ?_
  intro p e s m args below meth c A ls X hr hlk hw hl
  have hl : lv_has ls 4 [(0, .ref (η 0)), (1, .int a1)] := hl
  refine lv_iconst (v := (0 : Int32)) X.1 X.2.1 dX8_firstToMove_0 (by decide) ?_
  refine lv_istore_n (lv' := [(2, .int (0 : Int32)), (0, .ref (η 0)), (1, .int a1)]) X.1 X.2.1 dX8_firstToMove_1 rfl hl (by decide) rfl (fun ls hl => ?_)
  obtain ⟨f_, h⟩ := h
  exact bX8_firstToMove_2 X hr hlk f_ M a1 (0 : Int32) _ _ _ h hw (lv_sub hl [1, 2, 0] rfl)

theorem inX8_lineUpSooner_X1 : ∀ w ∈ wsX10, w ∈ wsX8_lineUpSooner := fun w h => List.mem_cons_of_mem _ (List.mem_append_left _ (List.mem_append_left _ (List.mem_append_left _ (List.mem_append_right _ h))))
theorem inX8_lineUpSooner_X8 : ∀ w ∈ wsX80, w ∈ wsX8_lineUpSooner := fun w h => List.mem_cons_of_mem _ (List.mem_append_left _ (List.mem_append_left _ (List.mem_append_left _ (List.mem_append_left _ (List.mem_append_right _ h)))))
abbrev rmX8_lineUpSooner : Room := { frames := 4, cells := 0, slots := 0, locals := 92 }
def vX8_lineUpSooner_60 (n : Nat) (K9 : Sg → Int32 → Prop) (Q : Sg → Prop) (M : Sg) (x1 : Int32) : Prop := (∀ (x_1 : Int32), x_1 = x1 + (1 : Int32) → (K9 M x_1))
set_option maxHeartbeats 4000000 in
set_option maxRecDepth 100000 in
theorem bX8_lineUpSooner_60 {p : Program} {l : Launch} {e : Env} {s : State} {m : MethodId} {args : Array Value} {below : List Frame} {meth : Method} {c : Code} {D : va_G} {κ : Nat → ClassId} {η : Nat → Nat} {σ : (Nat → Nat) × (Nat → Nat)} {A : Nat → Prop} {n : Nat} {Q : Sg → Prop} {K9 : Sg → Int32 → Prop} (X : CallFix p m c cX8_lineUpSooner 2 s args wsX8_lineUpSooner RX8) (hr : meth.sig.returnType = none) (hlk : meth.locks = false) (hK9 : ∀ (M : Sg) (x1 : Int32) (H : Heap) (locs : List Loc) (ls : Array Slot), K9 M x1 → Wd (cN σ) D (Ky κ) A s (cw κ η n M) H locs → lv_has ls 2 [(0, .ref (η 0)), (1, .int x1)] → W p l e rmX8_lineUpSooner s m args below meth c H locs 0 0 (MQ below (Qv D (Ky κ) (cw κ η n) A Q) args s 0 0 A) (F0 m 9 ls [])) : ∀ (M : Sg) (x1 : Int32) (H : Heap) (locs : List Loc) (ls : Array Slot), vX8_lineUpSooner_60 n K9 Q M x1 → Wd (cN σ) D (Ky κ) A s (cw κ η n M) H locs → lv_has ls 2 [(0, .ref (η 0)), (1, .int x1)] → W p l e rmX8_lineUpSooner s m args below meth c H locs 0 0 (MQ below (Qv D (Ky κ) (cw κ η n) A Q) args s 0 0 A) (F0 m 60 ls []) := by
  intro M x1 H locs ls h hw hl
  obtain ⟨x_1, ex_1⟩ : ∃ y : Int32, y = x1 + (1 : Int32) := ⟨_, rfl⟩
  have h := h x_1 ex_1
  refine lv_iinc (v := x_1) (lv' := [(1, .int x_1), (0, .ref (η 0))]) X.1 X.2.1 dX8_lineUpSooner_60 hl (k := 1) rfl (by rw [ex_1]; rfl) (by decide) rfl (fun ls hl => ?_)
  refine lv_goto (tgt := 9) X.1 X.2.1 dX8_lineUpSooner_63 (by decide) ?_
  exact hK9 M x_1 _ _ _ h hw (lv_sub hl [1, 0] rfl)
def vX8_lineUpSooner_9 (n : Nat) (Q : Sg → Prop) : Nat → Sg → Int32 → Prop
  | 0, _, _ => False
  | f9_ + 1, M, x1 => (((gI M 23) ≤ x1 → (Q M)) ∧ (¬ (gI M 23) ≤ x1 → ((vp_in x1 60 ∧ x1.toNatClampNeg < n) ∧ ((x1.toNatClampNeg) < n ∧ ((¬ (gA M 58 (x1.toNatClampNeg)) = (1 : Int32) → (vX8_lineUpSooner_60 n (vX8_lineUpSooner_9 n Q f9_) Q M x1)) ∧ ((gA M 58 (x1.toNatClampNeg)) = (1 : Int32) → ((vp_in x1 60 ∧ x1.toNatClampNeg < n) ∧ ((x1.toNatClampNeg) < n ∧ (((gA M 57 (x1.toNatClampNeg)) = 0 → (vX8_lineUpSooner_60 n (vX8_lineUpSooner_9 n Q f9_) Q M x1)) ∧ (¬ (gA M 57 (x1.toNatClampNeg)) = 0 → ((vp_in x1 60 ∧ x1.toNatClampNeg < n) ∧ (wX8_rankOf n M (x1.toNatClampNeg) (fun M_1 r_2 => (wX2_add n M_1 x1 r_2 (fun M_3 => (vX8_lineUpSooner_60 n (vX8_lineUpSooner_9 n Q f9_) Q M_3 x1))))))))))))))))
set_option maxHeartbeats 4000000 in
set_option maxRecDepth 100000 in
theorem bX8_lineUpSooner_9 {p : Program} {l : Launch} {e : Env} {s : State} {m : MethodId} {args : Array Value} {below : List Frame} {meth : Method} {c : Code} {D : va_G} {κ : Nat → ClassId} {η : Nat → Nat} {σ : (Nat → Nat) × (Nat → Nat)} {A : Nat → Prop} {n : Nat} {Q : Sg → Prop} (X : CallFix p m c cX8_lineUpSooner 2 s args wsX8_lineUpSooner RX8) (hr : meth.sig.returnType = none) (hlk : meth.locks = false) : ∀ (f_ : Nat) (M : Sg) (x1 : Int32) (H : Heap) (locs : List Loc) (ls : Array Slot), vX8_lineUpSooner_9 n Q f_ M x1 → Wd (cN σ) D (Ky κ) A s (cw κ η n M) H locs → lv_has ls 2 [(0, .ref (η 0)), (1, .int x1)] → W p l e rmX8_lineUpSooner s m args below meth c H locs 0 0 (MQ below (Qv D (Ky κ) (cw κ η n) A Q) args s 0 0 A) (F0 m 9 ls []) := by
  intro f_
  induction f_ with
  | zero => intro M x1 H locs ls h; exact h.elim
  | succ f_ hK9 =>
    intro M x1 H locs ls h hw hl
    refine lv_iload_n X.1 X.2.1 dX8_lineUpSooner_9 rfl (lv_at hl 1 rfl) ?_
    refine lv_aload_n X.1 X.2.1 dX8_lineUpSooner_10 rfl (lv_at hl 0 rfl) ?_
    refine r_gf X inX8_lineUpSooner_X8 hw 0 rfl rfl 9 (by decide) (X.2.2.2.2 (.fieldLink RX8 64 "TestHall" "learnerCount" "I") (by decide +kernel)) rfl rfl dX8_lineUpSooner_11 ?_
    obtain ⟨ht_, hf_⟩ := h
    refine lv_icmp_ge (tgt := 66) X.1 X.2.1 dX8_lineUpSooner_14 (by decide) (fun c_ => ?_) (fun c_ => ?_)
    · have h := ht_ c_
      exact r_vret X hr hlk hw h dX8_lineUpSooner_66
    · have h := hf_ c_
      refine lv_aload_n X.1 X.2.1 dX8_lineUpSooner_17 rfl (lv_at hl 0 rfl) ?_
      refine r_gf X inX8_lineUpSooner_X8 hw 0 rfl rfl 1 (by decide) (X.2.2.2.2 (.fieldLink RX8 18 "TestHall" "learners" "[LTestHall$Learner;") (by decide +kernel)) rfl rfl dX8_lineUpSooner_18 ?_
      refine lv_iload_n X.1 X.2.1 dX8_lineUpSooner_21 rfl (lv_at hl 1 rfl) ?_
      obtain ⟨hi_, h⟩ := h
      refine r_lrn X hw hi_.1 hi_.2 dX8_lineUpSooner_22 ?_
      obtain ⟨hj_, h⟩ := h
      refine r_gf X inX8_lineUpSooner_X1 hw (49 + (x1.toNatClampNeg)) (cw_lrn hj_) rfl 8 (by decide) (X.2.2.2.2 (.fieldLink RX8 140 "TestHall$Learner" "state" "I") (by decide +kernel)) rfl rfl dX8_lineUpSooner_23 ?_
      refine lv_iconst (v := (1 : Int32)) X.1 X.2.1 dX8_lineUpSooner_26 (by decide) ?_
      obtain ⟨ht_, hf_⟩ := h
      refine lv_icmp_ne (tgt := 60) X.1 X.2.1 dX8_lineUpSooner_27 (by decide) (fun c_ => ?_) (fun c_ => ?_)
      · have h := ht_ c_
        exact bX8_lineUpSooner_60 X hr hlk hK9 M x1 _ _ _ h hw (lv_sub hl [0, 1] rfl)
      · have h := hf_ c_
        refine lv_aload_n X.1 X.2.1 dX8_lineUpSooner_30 rfl (lv_at hl 0 rfl) ?_
        refine r_gf X inX8_lineUpSooner_X8 hw 0 rfl rfl 1 (by decide) (X.2.2.2.2 (.fieldLink RX8 18 "TestHall" "learners" "[LTestHall$Learner;") (by decide +kernel)) rfl rfl dX8_lineUpSooner_31 ?_
        refine lv_iload_n X.1 X.2.1 dX8_lineUpSooner_34 rfl (lv_at hl 1 rfl) ?_
        obtain ⟨hi_, h⟩ := h
        refine r_lrn X hw hi_.1 hi_.2 dX8_lineUpSooner_35 ?_
        obtain ⟨hj_, h⟩ := h
        refine r_gf X inX8_lineUpSooner_X1 hw (49 + (x1.toNatClampNeg)) (cw_lrn hj_) rfl 7 (by decide) (X.2.2.2.2 (.fieldLink RX8 112 "TestHall$Learner" "sooner" "Z") (by decide +kernel)) rfl rfl dX8_lineUpSooner_36 ?_
        obtain ⟨ht_, hf_⟩ := h
        refine lv_if_eq (tgt := 60) X.1 X.2.1 dX8_lineUpSooner_39 (by decide) (fun c_ => ?_) (fun c_ => ?_)
        · have h := ht_ c_
          exact bX8_lineUpSooner_60 X hr hlk hK9 M x1 _ _ _ h hw (lv_sub hl [0, 1] rfl)
        · have h := hf_ c_
          refine lv_aload_n X.1 X.2.1 dX8_lineUpSooner_42 rfl (lv_at hl 0 rfl) ?_
          refine r_gf X inX8_lineUpSooner_X8 hw 0 rfl rfl 2 (by decide) (X.2.2.2.2 (.fieldLink RX8 25 "TestHall" "line" "LTestHall$Line;") (by decide +kernel)) rfl rfl dX8_lineUpSooner_43 ?_
          refine lv_iload_n X.1 X.2.1 dX8_lineUpSooner_46 rfl (lv_at hl 1 rfl) ?_
          refine lv_aload_n X.1 X.2.1 dX8_lineUpSooner_47 rfl (lv_at hl 0 rfl) ?_
          refine lv_aload_n X.1 X.2.1 dX8_lineUpSooner_48 rfl (lv_at hl 0 rfl) ?_
          refine r_gf X inX8_lineUpSooner_X8 hw 0 rfl rfl 1 (by decide) (X.2.2.2.2 (.fieldLink RX8 18 "TestHall" "learners" "[LTestHall$Learner;") (by decide +kernel)) rfl rfl dX8_lineUpSooner_49 ?_
          refine lv_iload_n X.1 X.2.1 dX8_lineUpSooner_52 rfl (lv_at hl 1 rfl) ?_
          obtain ⟨hi_, h⟩ := h
          refine r_lrn X hw hi_.1 hi_.2 dX8_lineUpSooner_53 ?_
          refine r_Vi (As := [.ref (η (49 + (x1.toNatClampNeg)))]) (rest := [.int x1, .ref (η 2)]) X cN_ok (kX8_rankOf h) (cwV 1 X.2.2.2.2 gX8_lineUpSooner_X8_rankOf rfl rfl rfl (by decide +kernel) ⟨Nat.le_of_ble_eq_true rfl, Nat.le_of_ble_eq_true rfl⟩) hw 0 7 rfl rfl rfl hl.1 rfl (Nat.le_of_ble_eq_true rfl) dX8_lineUpSooner_54 (fun r_2 M_1 H locs h hw => ?_)
          refine r_Vv (As := [.int x1, .int r_2]) (rest := []) X cN_ok (kX2_add h) (cwV 2 X.2.2.2.2 gX8_lineUpSooner_X2_add rfl rfl rfl (by decide +kernel) ⟨Nat.le_of_ble_eq_true rfl, Nat.le_of_ble_eq_true rfl⟩) hw 2 2 rfl rfl rfl hl.1 rfl (Nat.le_of_ble_eq_true rfl) dX8_lineUpSooner_57 (fun M_3 H locs h hw => ?_)
          exact bX8_lineUpSooner_60 X hr hlk hK9 M_3 x1 _ _ _ h hw (lv_sub hl [0, 1] rfl)
def wX8_lineUpSooner (n : Nat) (M : Sg) (Q : Sg → Prop) : Prop := (wX2_clear n M (fun M_1 => (∃ g9_ : Nat, vX8_lineUpSooner_9 n Q g9_ M_1 (0 : Int32))))
set_option maxHeartbeats 4000000 in
set_option maxRecDepth 100000 in
theorem kX8_lineUpSooner {l : Launch} {D : va_G} {κ : Nat → ClassId} {η : Nat → Nat} {σ : (Nat → Nat) × (Nat → Nat)} {n : Nat} {M : Sg} {Q : Sg → Prop} (h : wX8_lineUpSooner n M Q) : Kv (cN σ) D (Ky κ) (cw κ η n) l yX8_lineUpSooner wsX8_lineUpSooner rmX8_lineUpSooner [.ref (η 0)] M Q := by
  refine ofW_g (Qc := fun A => Qv D (Ky κ) (cw κ η n) A Q) (cc := cX8_lineUpSooner) (maxL := 2) (ret := none) (by decide) rfl (Nat.le_of_ble_eq_true rfl) ?_
  intro p e s m args below meth c A ls X hr hlk hw hl
  have hl : lv_has ls 2 [(0, .ref (η 0))] := hl
  refine lv_aload_n X.1 X.2.1 dX8_lineUpSooner_0 rfl (lv_at hl 0 rfl) ?_
  refine r_gf X inX8_lineUpSooner_X8 hw 0 rfl rfl 2 (by decide) (X.2.2.2.2 (.fieldLink RX8 25 "TestHall" "line" "LTestHall$Line;") (by decide +kernel)) rfl rfl dX8_lineUpSooner_1 ?_
  refine r_Vv (As := []) (rest := []) X cN_ok (kX2_clear h) (cwV 0 X.2.2.2.2 gX8_lineUpSooner_X2_clear rfl rfl rfl (by decide +kernel) ⟨Nat.le_of_ble_eq_true rfl, Nat.le_of_ble_eq_true rfl⟩) hw 2 2 rfl rfl rfl hl.1 rfl (Nat.le_of_ble_eq_true rfl) dX8_lineUpSooner_4 (fun M_1 H locs h hw => ?_)
  refine lv_iconst (v := (0 : Int32)) X.1 X.2.1 dX8_lineUpSooner_7 (by decide) ?_
  refine lv_istore_n (lv' := [(1, .int (0 : Int32)), (0, .ref (η 0))]) X.1 X.2.1 dX8_lineUpSooner_8 rfl hl (by decide) rfl (fun ls hl => ?_)
  obtain ⟨f_, h⟩ := h
  exact bX8_lineUpSooner_9 X hr hlk f_ M_1 (0 : Int32) _ _ _ h hw (lv_sub hl [1, 0] rfl)

theorem inX8_moveUp_X1 : ∀ w ∈ wsX10, w ∈ wsX8_moveUp := fun w h => List.mem_cons_of_mem _ (List.mem_append_left _ (List.mem_append_left _ (List.mem_append_left _ (List.mem_append_right _ h))))
theorem inX8_moveUp_X8 : ∀ w ∈ wsX80, w ∈ wsX8_moveUp := fun w h => List.mem_cons_of_mem _ (List.mem_append_left _ (List.mem_append_left _ (List.mem_append_left _ (List.mem_append_left _ (List.mem_append_right _ h)))))
abbrev rmX8_moveUp : Room := { frames := 5, cells := 0, slots := 0, locals := 113 }
def vX8_moveUp_11 (n : Nat) (Q : Sg → Int32 → Prop) : Nat → Sg → Int32 → Int32 → Int32 → Prop
  | 0, _, _, _, _ => False
  | f11_ + 1, M, x2, x3, x4 => (((60 : Int32) ≤ x4 → (Q M x2)) ∧ (¬ (60 : Int32) ≤ x4 → (wX0_isFree n M x3 (fun M_1 r_2 => ((r_2 = 0 → (Q M_1 x2)) ∧ (¬ r_2 = 0 → (wX8_firstToMove n M_1 x3 (fun M_3 r_4 => ((r_4 = none → (Q M_3 x2)) ∧ (∀ j_5 : Nat, r_4 = some j_5 → (j_5 < n ∧ (∀ (x_6 : Int32), x_6 = (gA M_3 59 j_5) → (wX8_release n M_3 j_5 (fun M_7 => (wX8_book n M_7 j_5 x3 (fun M_9 => (j_5 < n ∧ (j_5 < n ∧ (∀ (M_11 : Sg), M_11 = sA M_9 61 j_5 ((gA M_9 61 j_5) + (1 : Int32)) → (∀ (x_12 : Int32), x_12 = x2 + (1 : Int32) → (∀ (x_13 : Int32), x_13 = x4 + (1 : Int32) → (vX8_moveUp_11 n Q f11_ M_11 x_12 x_6 x_13))))))))))))))))))))))
set_option maxHeartbeats 4000000 in
set_option maxRecDepth 100000 in
theorem bX8_moveUp_11 {p : Program} {l : Launch} {e : Env} {s : State} {m : MethodId} {args : Array Value} {below : List Frame} {meth : Method} {c : Code} {D : va_G} {κ : Nat → ClassId} {η : Nat → Nat} {σ : (Nat → Nat) × (Nat → Nat)} {A : Nat → Prop} {n : Nat} {Q : Sg → Int32 → Prop} (X : CallFix p m c cX8_moveUp 7 s args wsX8_moveUp RX8) (hr : meth.sig.returnType = (some .int)) (hlk : meth.locks = false) : ∀ (f_ : Nat) (M : Sg) (x2 : Int32) (x3 : Int32) (x4 : Int32) (H : Heap) (locs : List Loc) (ls : Array Slot), vX8_moveUp_11 n Q f_ M x2 x3 x4 → Wd (cN σ) D (Ky κ) A s (cw κ η n M) H locs → lv_has ls 7 [(0, .ref (η 0)), (2, .int x2), (3, .int x3), (4, .int x4)] → W p l e rmX8_moveUp s m args below meth c H locs 0 0 (MQ below (Qi D (Ky κ) (cw κ η n) A Q) args s 0 0 A) (F0 m 11 ls []) := by
  intro f_
  induction f_ with
  | zero => intro M x2 x3 x4 H locs ls h; exact h.elim
  | succ f_ hK11 =>
    intro M x2 x3 x4 H locs ls h hw hl
    refine lv_iload X.1 X.2.1 dX8_moveUp_11 (lv_at hl 3 rfl) ?_
    refine lv_bipush (v := (60 : Int32)) X.1 X.2.1 dX8_moveUp_13 (by decide) ?_
    obtain ⟨ht_, hf_⟩ := h
    refine lv_icmp_ge (tgt := 87) X.1 X.2.1 dX8_moveUp_15 (by decide) (fun c_ => ?_) (fun c_ => ?_)
    · have h := ht_ c_
      refine lv_iload_n X.1 X.2.1 dX8_moveUp_87 rfl (lv_at hl 1 rfl) ?_
      exact r_ret X hr hlk hw h dX8_moveUp_88
    · have h := hf_ c_
      refine lv_aload_n X.1 X.2.1 dX8_moveUp_18 rfl (lv_at hl 0 rfl) ?_
      refine r_gf X inX8_moveUp_X8 hw 0 rfl rfl 0 (by decide) (X.2.2.2.2 (.fieldLink RX8 12 "TestHall" "calendar" "LTestHall$Calendar;") (by decide +kernel)) rfl rfl dX8_moveUp_19 ?_
      refine lv_iload_n X.1 X.2.1 dX8_moveUp_22 rfl (lv_at hl 2 rfl) ?_
      refine r_Vi (As := [.int x3]) (rest := []) X cN_ok (kX0_isFree h) (cwV 1 X.2.2.2.2 gX8_moveUp_X0_isFree rfl rfl rfl (by decide +kernel) ⟨Nat.le_of_ble_eq_true rfl, Nat.le_of_ble_eq_true rfl⟩) hw 1 0 rfl rfl rfl hl.1 rfl (Nat.le_of_ble_eq_true rfl) dX8_moveUp_23 (fun r_2 M_1 H locs h hw => ?_)
      obtain ⟨ht_, hf_⟩ := h
      refine lv_if_eq (tgt := 87) X.1 X.2.1 dX8_moveUp_26 (by decide) (fun c_ => ?_) (fun c_ => ?_)
      · have h := ht_ c_
        refine lv_iload_n X.1 X.2.1 dX8_moveUp_87 rfl (lv_at hl 1 rfl) ?_
        exact r_ret X hr hlk hw h dX8_moveUp_88
      · have h := hf_ c_
        refine lv_aload_n X.1 X.2.1 dX8_moveUp_29 rfl (lv_at hl 0 rfl) ?_
        refine lv_iload_n X.1 X.2.1 dX8_moveUp_30 rfl (lv_at hl 2 rfl) ?_
        refine r_Vq (As := [.int x3]) (rest := []) X cN_ok (kX8_firstToMove h) (cwV 1 X.2.2.2.2 gX8_moveUp_X8_firstToMove rfl rfl rfl (by decide +kernel) ⟨Nat.le_of_ble_eq_true rfl, Nat.le_of_ble_eq_true rfl⟩) hw 0 7 rfl rfl rfl hl.1 rfl (Nat.le_of_ble_eq_true rfl) dX8_moveUp_31 (fun M_3 H locs h hw => ?_) (fun j_5 M_3 H locs h hw => ?_)
        · have h := h.1 rfl
          refine lv_astoreN (lv' := [(5, .null), (0, .ref (η 0)), (2, .int x2), (3, .int x3), (4, .int x4)]) X.1 X.2.1 dX8_moveUp_34 hl (by decide) rfl (fun ls hl => ?_)
          refine lv_aloadN X.1 X.2.1 dX8_moveUp_36 (lv_at hl 0 rfl) ?_
          refine lv_ifnonnullN X.1 X.2.1 dX8_moveUp_38 ?_
          refine lv_goto (tgt := 87) X.1 X.2.1 dX8_moveUp_41 (by decide) ?_
          refine lv_iload_n X.1 X.2.1 dX8_moveUp_87 rfl (lv_at hl 2 rfl) ?_
          exact r_ret X hr hlk hw h dX8_moveUp_88
        · have h := h.2 j_5 rfl
          refine lv_astore (lv' := [(5, .ref (η (49 + j_5))), (0, .ref (η 0)), (2, .int x2), (3, .int x3), (4, .int x4)]) X.1 X.2.1 dX8_moveUp_34 hl (by decide) rfl (fun ls hl => ?_)
          refine lv_aload X.1 X.2.1 dX8_moveUp_36 (lv_at hl 0 rfl) ?_
          refine lv_ifnonnull (tgt := 44) X.1 X.2.1 dX8_moveUp_38 (by decide) ?_
          refine lv_aload X.1 X.2.1 dX8_moveUp_44 (lv_at hl 0 rfl) ?_
          obtain ⟨hj_, h⟩ := h
          refine r_gf X inX8_moveUp_X1 hw (49 + j_5) (cw_lrn hj_) rfl 9 (by decide) (X.2.2.2.2 (.fieldLink RX8 143 "TestHall$Learner" "slot" "I") (by decide +kernel)) rfl rfl dX8_moveUp_46 ?_
          refine lv_topi (fun x_6 ex_6 => ?_)
          have h := h x_6 ex_6
          refine lv_istore (lv' := [(6, .int x_6), (5, .ref (η (49 + j_5))), (0, .ref (η 0)), (2, .int x2), (3, .int x3), (4, .int x4)]) X.1 X.2.1 dX8_moveUp_49 hl (by decide) rfl (fun ls hl => ?_)
          refine lv_aload_n X.1 X.2.1 dX8_moveUp_51 rfl (lv_at hl 2 rfl) ?_
          refine lv_aload X.1 X.2.1 dX8_moveUp_52 (lv_at hl 1 rfl) ?_
          refine r_Vv (As := [.ref (η (49 + j_5))]) (rest := []) X cN_ok (kX8_release h) (cwV 1 X.2.2.2.2 gX8_moveUp_X8_release rfl rfl rfl (by decide +kernel) ⟨Nat.le_of_ble_eq_true rfl, Nat.le_of_ble_eq_true rfl⟩) hw 0 7 rfl rfl rfl hl.1 rfl (Nat.le_of_ble_eq_true rfl) dX8_moveUp_54 (fun M_7 H locs h hw => ?_)
          refine lv_aload_n X.1 X.2.1 dX8_moveUp_57 rfl (lv_at hl 2 rfl) ?_
          refine lv_aload X.1 X.2.1 dX8_moveUp_58 (lv_at hl 1 rfl) ?_
          refine lv_iload_n X.1 X.2.1 dX8_moveUp_60 rfl (lv_at hl 4 rfl) ?_
          refine r_Vv (As := [.ref (η (49 + j_5)), .int x3]) (rest := []) X cN_ok (kX8_book h) (cwV 2 X.2.2.2.2 gX8_moveUp_X8_book rfl rfl rfl (by decide +kernel) ⟨Nat.le_of_ble_eq_true rfl, Nat.le_of_ble_eq_true rfl⟩) hw 0 7 rfl rfl rfl hl.1 rfl (Nat.le_of_ble_eq_true rfl) dX8_moveUp_61 (fun M_9 H locs h hw => ?_)
          refine lv_aload X.1 X.2.1 dX8_moveUp_64 (lv_at hl 1 rfl) ?_
          refine lv_dup X.1 X.2.1 dX8_moveUp_66 rfl ?_
          obtain ⟨hj_, h⟩ := h
          refine r_gf X inX8_moveUp_X1 hw (49 + j_5) (cw_lrn hj_) rfl 11 (by decide) (X.2.2.2.2 (.fieldLink RX8 196 "TestHall$Learner" "movedUp" "I") (by decide +kernel)) rfl rfl dX8_moveUp_67 ?_
          refine lv_iconst (v := (1 : Int32)) X.1 X.2.1 dX8_moveUp_70 (by decide) ?_
          refine lv_iadd X.1 X.2.1 dX8_moveUp_71 ?_
          obtain ⟨hj_, h⟩ := h
          refine r_pf (ty := .int) (w' := cw κ η n (sA M_9 61 j_5 ((gA M_9 61 j_5) + (1 : Int32)))) X inX8_moveUp_X1 tyX1_ok nmX1 hw (49 + j_5) (cw_lrn hj_) rfl 11 (by decide) (X.2.2.2.2 (.fieldLink RX8 196 "TestHall$Learner" "movedUp" "I") (by decide +kernel)) rfl rfl (by decide +kernel) rfl rfl (Nat.le_of_ble_eq_true rfl) (cw_lset11 hj_) dX8_moveUp_72 (fun H locs hw => ?_)
          obtain ⟨M_11, eM_11⟩ : ∃ y : Sg, y = sA M_9 61 j_5 ((gA M_9 61 j_5) + (1 : Int32)) := ⟨_, rfl⟩
          rw [← eM_11] at hw
          have h := h M_11 eM_11
          obtain ⟨x_12, ex_12⟩ : ∃ y : Int32, y = x2 + (1 : Int32) := ⟨_, rfl⟩
          have h := h x_12 ex_12
          refine lv_iinc (v := x_12) (lv' := [(2, .int x_12), (6, .int x_6), (5, .ref (η (49 + j_5))), (0, .ref (η 0)), (3, .int x3), (4, .int x4)]) X.1 X.2.1 dX8_moveUp_75 hl (k := 3) rfl (by rw [ex_12]; rfl) (by decide) rfl (fun ls hl => ?_)
          refine lv_iload X.1 X.2.1 dX8_moveUp_78 (lv_at hl 1 rfl) ?_
          refine lv_istore_n (lv' := [(3, .int x_6), (2, .int x_12), (6, .int x_6), (5, .ref (η (49 + j_5))), (0, .ref (η 0)), (4, .int x4)]) X.1 X.2.1 dX8_moveUp_80 rfl hl (by decide) rfl (fun ls hl => ?_)
          obtain ⟨x_13, ex_13⟩ : ∃ y : Int32, y = x4 + (1 : Int32) := ⟨_, rfl⟩
          have h := h x_13 ex_13
          refine lv_iinc (v := x_13) (lv' := [(4, .int x_13), (3, .int x_6), (2, .int x_12), (6, .int x_6), (5, .ref (η (49 + j_5))), (0, .ref (η 0))]) X.1 X.2.1 dX8_moveUp_81 hl (k := 5) rfl (by rw [ex_13]; rfl) (by decide) rfl (fun ls hl => ?_)
          refine lv_goto (tgt := 11) X.1 X.2.1 dX8_moveUp_84 (by decide) ?_
          exact hK11 M_11 x_12 x_6 x_13 _ _ _ h hw (lv_sub hl [5, 2, 1, 0] rfl)
def wX8_moveUp (n : Nat) (M : Sg) (a1 : Int32) (Q : Sg → Int32 → Prop) : Prop := (wX8_lineUpSooner n M (fun M_1 => (∃ g11_ : Nat, vX8_moveUp_11 n Q g11_ M_1 (0 : Int32) a1 (0 : Int32))))
set_option maxHeartbeats 4000000 in
set_option maxRecDepth 100000 in
theorem kX8_moveUp {l : Launch} {D : va_G} {κ : Nat → ClassId} {η : Nat → Nat} {σ : (Nat → Nat) × (Nat → Nat)} {n : Nat} {M : Sg} {a1 : Int32} {Q : Sg → Int32 → Prop} (h : wX8_moveUp n M a1 Q) : Ki (cN σ) D (Ky κ) (cw κ η n) l yX8_moveUp wsX8_moveUp rmX8_moveUp [.ref (η 0), .int a1] M Q := by
  refine ofW_g (Qc := fun A => Qi D (Ky κ) (cw κ η n) A Q) (cc := cX8_moveUp) (maxL := 7) (ret := (some .int)) (by decide) rfl (Nat.le_of_ble_eq_true rfl) ?_
  intro p e s m args below meth c A ls X hr hlk hw hl
  have hl : lv_has ls 7 [(0, .ref (η 0)), (1, .int a1)] := hl
  refine lv_aload_n X.1 X.2.1 dX8_moveUp_0 rfl (lv_at hl 0 rfl) ?_
  refine r_Vv (As := []) (rest := []) X cN_ok (kX8_lineUpSooner h) (cwV 0 X.2.2.2.2 gX8_moveUp_X8_lineUpSooner rfl rfl rfl (by decide +kernel) ⟨Nat.le_of_ble_eq_true rfl, Nat.le_of_ble_eq_true rfl⟩) hw 0 7 rfl rfl rfl hl.1 rfl (Nat.le_of_ble_eq_true rfl) dX8_moveUp_1 (fun M_1 H locs h hw => ?_)
  refine lv_iconst (v := (0 : Int32)) X.1 X.2.1 dX8_moveUp_4 (by decide) ?_
  refine lv_istore_n (lv' := [(2, .int (0 : Int32)), (0, .ref (η 0)), (1, .int a1)]) X.1 X.2.1 dX8_moveUp_5 rfl hl (by decide) rfl (fun ls hl => ?_)
  refine lv_iload_n X.1 X.2.1 dX8_moveUp_6 rfl (lv_at hl 2 rfl) ?_
  refine lv_istore_n (lv' := [(3, .int a1), (2, .int (0 : Int32)), (0, .ref (η 0)), (1, .int a1)]) X.1 X.2.1 dX8_moveUp_7 rfl hl (by decide) rfl (fun ls hl => ?_)
  refine lv_iconst (v := (0 : Int32)) X.1 X.2.1 dX8_moveUp_8 (by decide) ?_
  refine lv_istore (lv' := [(4, .int (0 : Int32)), (3, .int a1), (2, .int (0 : Int32)), (0, .ref (η 0)), (1, .int a1)]) X.1 X.2.1 dX8_moveUp_9 hl (by decide) rfl (fun ls hl => ?_)
  obtain ⟨f_, h⟩ := h
  exact bX8_moveUp_11 X hr hlk f_ M_1 (0 : Int32) a1 (0 : Int32) _ _ _ h hw (lv_sub hl [3, 2, 1, 0] rfl)
