theorem inX8_text_X4 : ∀ w ∈ wsX40, w ∈ wsX8_text := fun w h => List.mem_cons_of_mem _ (List.mem_append_left _ (List.mem_append_left _ (List.mem_append_right _ h)))
theorem inX8_text_X8 : ∀ w ∈ wsX80, w ∈ wsX8_text := fun w h => List.mem_cons_of_mem _ (List.mem_append_left _ (List.mem_append_left _ (List.mem_append_left _ (List.mem_append_right _ h))))

abbrev rmX8_text : Room := { frames := 35, cells := 0, slots := 0, locals := 866 }

set_option maxHeartbeats 4000000 in
set_option maxRecDepth 100000 in
theorem text_swap {p : Program} {l : Launch} {e : Env} {s : State} {m : MethodId} {args : Array Value} {below : List Frame} {meth : Method} {c : Code} {D : va_G} {κ : Nat → ClassId} {η : Nat → Nat} {N : (Nat → Prop) → State → Prop} {A : Nat → Prop} {n : Nat} {M : Sg} {x1 : Int32} {H : Heap} {locs : List Loc} {ls : Array Slot} {R : Room} {QQ : State → Prop} {cells slots : Nat} (X : CallFix p m c cX8_text 3 s args wsX8_text RX8) (hw : Wd N D (Ky κ) A s (cw κ η n M) H locs) (hl : lv_has ls 3 [(0, .ref (η 0)), (1, .int x1)])
    (kk : ∀ (H : Heap) (locs : List Loc) (ls : Array Slot), Wd N D (Ky κ) A s (cw κ (swE η) n (swM M)) H locs → lv_has ls 3 [(1, .int x1)] → W p l e R s m args below meth c H locs cells slots QQ (F0 m 46 ls [])) : W p l e R s m args below meth c H locs cells slots QQ (F0 m 28 ls []) := by
  refine lv_aload_n X.1 X.2.1 dX8_text_28 rfl (lv_at hl 0 rfl) ?_
  refine r_gf X inX8_text_X8 hw 0 rfl rfl 7 (by decide) (X.2.2.2.2 (.fieldLink RX8 57 "TestHall" "order" "LTestHall$Text;") (by decide +kernel)) rfl rfl dX8_text_29 ?_
  refine lv_astore_n (lv' := [(2, .ref (η 6)), (0, .ref (η 0)), (1, .int x1)]) X.1 X.2.1 dX8_text_32 rfl hl (by decide) rfl (fun ls hl => ?_)
  refine lv_aload_n X.1 X.2.1 dX8_text_33 rfl (lv_at hl 1 rfl) ?_
  refine lv_aload_n X.1 X.2.1 dX8_text_34 rfl (lv_at hl 1 rfl) ?_
  refine r_gf X inX8_text_X8 hw 0 rfl rfl 8 (by decide) (X.2.2.2.2 (.fieldLink RX8 61 "TestHall" "spare" "LTestHall$Text;") (by decide +kernel)) rfl rfl dX8_text_35 ?_
  refine r_pf (ty := .object "TestHall$Text") (w' := (cw κ η n M).set 0 (η 0, .inr (7, (cf0 η M).set 7 (.ref (η 7))))) X inX8_text_X8 tyX8_ok nmX8 hw 0 rfl rfl 7 (by decide) (X.2.2.2.2 (.fieldLink RX8 57 "TestHall" "order" "LTestHall$Text;") (by decide +kernel)) rfl rfl (by decide +kernel) rfl rfl (Nat.le_of_ble_eq_true rfl) rfl dX8_text_38 (fun H locs hw => ?_)
  refine lv_aload_n X.1 X.2.1 dX8_text_41 rfl (lv_at hl 1 rfl) ?_
  refine lv_aload_n X.1 X.2.1 dX8_text_42 rfl (lv_at hl 0 rfl) ?_
  refine r_pf (ty := .object "TestHall$Text") (fs := (cf0 η M).set 7 (.ref (η 7))) (w' := ((cw κ η n M).set 0 (η 0, .inr (7, (cf0 η M).set 7 (.ref (η 7))))).set 0 (η 0, .inr (7, ((cf0 η M).set 7 (.ref (η 7))).set 8 (.ref (η 6))))) X inX8_text_X8 tyX8_ok nmX8 hw 0 rfl rfl 8 (by decide) (X.2.2.2.2 (.fieldLink RX8 61 "TestHall" "spare" "LTestHall$Text;") (by decide +kernel)) rfl rfl (by decide +kernel) rfl rfl (Nat.le_of_ble_eq_true rfl) rfl dX8_text_43 (fun H locs hw => ?_)
  exact kk H locs ls (cw_swap hw) (lv_sub hl [2] rfl)

def wX8_text (n : Nat) (M : Sg) (Q : Nat → Sg → Int32 → Prop) : Prop := (wX6_read n M (fun M_1 r_2 => (∀ (M_3 : Sg), M_3 = sI M_1 14 (0 : Int32) → ((¬ r_2 = 0 → (Q n M_3 r_2)) ∧ (r_2 = 0 → (Q n (swM M_3) r_2))))))

set_option maxHeartbeats 4000000 in
set_option maxRecDepth 100000 in
theorem kX8_text {l : Launch} {D : va_G} {κ : Nat → ClassId} {η : Nat → Nat} {σ : (Nat → Nat) × (Nat → Nat)} {n : Nat} {M : Sg} {Q : Nat → Sg → Int32 → Prop} (h : wX8_text n M Q) : Kx (cN σ) D κ η n l yX8_text wsX8_text rmX8_text [.ref (η 0)] M Q 0 0 := by
  refine ofW_x (cc := cX8_text) (maxL := 3) (ret := some .int) (by decide) rfl (Nat.le_of_ble_eq_true rfl) ?_
  intro p e s m args below meth c A ls X hr hlk hw hl
  have hl : lv_has ls 3 [(0, .ref (η 0))] := hl
  refine lv_aload_n X.1 X.2.1 dX8_text_0 rfl (lv_at hl 0 rfl) ?_
  refine r_gf X inX8_text_X8 hw 0 rfl rfl 5 (by decide) (X.2.2.2.2 (.fieldLink RX8 45 "TestHall" "reader" "LTestHall$TextReader;") (by decide +kernel)) rfl rfl dX8_text_1 ?_
  refine lv_aload_n X.1 X.2.1 dX8_text_4 rfl (lv_at hl 0 rfl) ?_
  refine r_gf X inX8_text_X8 hw 0 rfl rfl 4 (by decide) (X.2.2.2.2 (.fieldLink RX8 38 "TestHall" "tape" "LTestHall$Tape;") (by decide +kernel)) rfl rfl dX8_text_5 ?_
  refine lv_aload_n X.1 X.2.1 dX8_text_8 rfl (lv_at hl 0 rfl) ?_
  refine r_gf X inX8_text_X8 hw 0 rfl rfl 8 (by decide) (X.2.2.2.2 (.fieldLink RX8 61 "TestHall" "spare" "LTestHall$Text;") (by decide +kernel)) rfl rfl dX8_text_9 ?_
  refine r_Vi (As := [.ref (η 3), .ref (η 7)]) (rest := []) X cN_ok (kX6_read h) (cwV 2 X.2.2.2.2 gX8_text_X6_read rfl rfl rfl (by decide +kernel) ⟨Nat.le_of_ble_eq_true rfl, Nat.le_of_ble_eq_true rfl⟩) hw 4 6 rfl rfl rfl hl.1 rfl (Nat.le_of_ble_eq_true rfl) dX8_text_12 (fun r_2 M_1 H locs h hw => ?_)
  refine lv_istore_n (lv' := [(1, .int r_2), (0, .ref (η 0))]) X.1 X.2.1 dX8_text_15 rfl hl (by decide) rfl (fun ls hl => ?_)
  refine lv_aload_n X.1 X.2.1 dX8_text_16 rfl (lv_at hl 1 rfl) ?_
  refine r_gf X inX8_text_X8 hw 0 rfl rfl 4 (by decide) (X.2.2.2.2 (.fieldLink RX8 38 "TestHall" "tape" "LTestHall$Tape;") (by decide +kernel)) rfl rfl dX8_text_17 ?_
  refine lv_iconst (v := (0 : Int32)) X.1 X.2.1 dX8_text_20 (by decide) ?_
  refine r_pf (ty := .int) (w' := cw κ η n (sI M_1 14 (0 : Int32))) X inX8_text_X4 tyX4_ok nmX4 hw 3 rfl rfl 1 (by decide) (X.2.2.2.2 (.fieldLink RX8 123 "TestHall$Tape" "length" "I") (by decide +kernel)) rfl rfl (by decide +kernel) rfl rfl (Nat.le_of_ble_eq_true rfl) rfl dX8_text_21 (fun H locs hw => ?_)
  obtain ⟨M_3, eM_3⟩ : ∃ y : Sg, y = sI M_1 14 (0 : Int32) := ⟨_, rfl⟩
  rw [← eM_3] at hw
  have h := h M_3 eM_3
  refine lv_iload_n X.1 X.2.1 dX8_text_24 rfl (lv_at hl 0 rfl) ?_
  obtain ⟨ht_, hf_⟩ := h
  refine lv_if_ne (tgt := 46) X.1 X.2.1 dX8_text_25 (by decide) (fun c_ => ?_) (fun c_ => ?_)
  · have h := ht_ c_
    refine lv_iload_n X.1 X.2.1 dX8_text_46 rfl (lv_at hl 0 rfl) ?_
    exact r_xret X hr hlk hw rfl h (Nat.zero_le _) (Nat.zero_le _) dX8_text_47
  · have h := hf_ c_
    refine text_swap X hw (lv_sub hl [1, 0] rfl) (fun H locs ls hw hl => ?_)
    refine lv_iload_n X.1 X.2.1 dX8_text_46 rfl (lv_at hl 0 rfl) ?_
    exact r_xret (η := swE η) X hr hlk hw rfl h (Nat.zero_le _) (Nat.zero_le _) dX8_text_47
