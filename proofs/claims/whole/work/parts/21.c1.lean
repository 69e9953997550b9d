theorem inX2_clear_X2 : ∀ w ∈ wsX20, w ∈ wsX2_clear := fun w h => List.mem_cons_of_mem _ (List.mem_append_right _ h)
abbrev rmX2_clear : Room := { frames := 0, cells := 0, slots := 0, locals := 0 }
def wX2_clear (n : Nat) (M : Sg) (Q : Sg → Prop) : Prop := (∀ (M_1 : Sg), M_1 = sI M 4 (0 : Int32) → (Q M_1))
set_option maxHeartbeats 4000000 in
set_option maxRecDepth 100000 in
theorem kX2_clear {l : Launch} {D : va_G} {κ : Nat → ClassId} {η : Nat → Nat} {σ : (Nat → Nat) × (Nat → Nat)} {n : Nat} {M : Sg} {Q : Sg → Prop} (h : wX2_clear n M Q) : Kv (cN σ) D (Ky κ) (cw κ η n) l yX2_clear wsX2_clear rmX2_clear [.ref (η 2)] M Q := by
  refine ofW_g (Qc := fun A => Qv D (Ky κ) (cw κ η n) A Q) (cc := cX2_clear) (maxL := 1) (ret := none) (by decide) rfl (Nat.le_of_ble_eq_true rfl) ?_
  intro p e s m args below meth c A ls X hr hlk hw hl
  have hl : lv_has ls 1 [(0, .ref (η 2))] := hl
  refine lv_aload_n X.1 X.2.1 dX2_clear_0 rfl (lv_at hl 0 rfl) ?_
  refine lv_iconst (v := (0 : Int32)) X.1 X.2.1 dX2_clear_1 (by decide) ?_
  refine r_pf (ty := .int) (w' := cw κ η n (sI M 4 (0 : Int32))) X inX2_clear_X2 tyX2_ok nmX2 hw 2 rfl rfl 2 (by decide) (X.2.2.2.2 (.fieldLink RX2 18 "TestHall$Line" "size" "I") (by decide +kernel)) rfl rfl (by decide +kernel) rfl rfl (Nat.le_of_ble_eq_true rfl) rfl dX2_clear_2 (fun H locs hw => ?_)
  obtain ⟨M_1, eM_1⟩ : ∃ y : Sg, y = sI M 4 (0 : Int32) := ⟨_, rfl⟩
  rw [← eM_1] at hw
  have h := h M_1 eM_1
  exact r_vret X hr hlk hw h dX2_clear_5

theorem inX2_add_X2 : ∀ w ∈ wsX20, w ∈ wsX2_add := fun w h => List.mem_cons_of_mem _ (List.mem_append_right _ h)
abbrev rmX2_add : Room := { frames := 0, cells := 0, slots := 0, locals := 0 }
def vX2_add_65 (n : Nat) (Q : Sg → Prop) (M : Sg) (x1 : Int32) (x2 : Int32) (x3 : Int32) : Prop := (vp_in x3 60 ∧ (∀ (M_1 : Sg), M_1 = sA M 5 x3.toNatClampNeg x1 → (vp_in x3 60 ∧ (∀ (M_2 : Sg), M_2 = sA M_1 6 x3.toNatClampNeg x2 → (∀ (M_3 : Sg), M_3 = sI M_2 4 ((gI M_2 4) + (1 : Int32)) → (Q M_3))))))
set_option maxHeartbeats 4000000 in
set_option maxRecDepth 100000 in
theorem bX2_add_65 {p : Program} {l : Launch} {e : Env} {s : State} {m : MethodId} {args : Array Value} {below : List Frame} {meth : Method} {c : Code} {D : va_G} {κ : Nat → ClassId} {η : Nat → Nat} {σ : (Nat → Nat) × (Nat → Nat)} {A : Nat → Prop} {n : Nat} {Q : Sg → Prop} (X : CallFix p m c cX2_add 4 s args wsX2_add RX2) (hr : meth.sig.returnType = none) (hlk : meth.locks = false) : ∀ (M : Sg) (x1 : Int32) (x2 : Int32) (x3 : Int32) (H : Heap) (locs : List Loc) (ls : Array Slot), vX2_add_65 n Q M x1 x2 x3 → Wd (cN σ) D (Ky κ) A s (cw κ η n M) H locs → lv_has ls 4 [(0, .ref (η 2)), (1, .int x1), (2, .int x2), (3, .int x3)] → W p l e rmX2_add s m args below meth c H locs 0 0 (MQ below (Qv D (Ky κ) (cw κ η n) A Q) args s 0 0 A) (F0 m 65 ls []) := by
  intro M x1 x2 x3 H locs ls h hw hl
  refine lv_aload_n X.1 X.2.1 dX2_add_65 rfl (lv_at hl 0 rfl) ?_
  refine r_gf X inX2_add_X2 hw 2 rfl rfl 0 (by decide) (X.2.2.2.2 (.fieldLink RX2 9 "TestHall$Line" "numbers" "[I") (by decide +kernel)) rfl rfl dX2_add_66 ?_
  refine lv_iload_n X.1 X.2.1 dX2_add_69 rfl (lv_at hl 3 rfl) ?_
  refine lv_iload_n X.1 X.2.1 dX2_add_70 rfl (lv_at hl 1 rfl) ?_
  obtain ⟨hi_, h⟩ := h
  refine r_ias (w' := cw κ η n (sA M 5 x3.toNatClampNeg x1)) X hw 14 0 rfl rfl hi_ rfl dX2_add_71 (fun H locs hw => ?_)
  obtain ⟨M_1, eM_1⟩ : ∃ y : Sg, y = sA M 5 x3.toNatClampNeg x1 := ⟨_, rfl⟩
  rw [← eM_1] at hw
  have h := h M_1 eM_1
  refine lv_aload_n X.1 X.2.1 dX2_add_72 rfl (lv_at hl 0 rfl) ?_
  refine r_gf X inX2_add_X2 hw 2 rfl rfl 1 (by decide) (X.2.2.2.2 (.fieldLink RX2 15 "TestHall$Line" "ranks" "[I") (by decide +kernel)) rfl rfl dX2_add_73 ?_
  refine lv_iload_n X.1 X.2.1 dX2_add_76 rfl (lv_at hl 3 rfl) ?_
  refine lv_iload_n X.1 X.2.1 dX2_add_77 rfl (lv_at hl 2 rfl) ?_
  obtain ⟨hi_, h⟩ := h
  refine r_ias (w' := cw κ η n (sA M_1 6 x3.toNatClampNeg x2)) X hw 15 0 rfl rfl hi_ rfl dX2_add_78 (fun H locs hw => ?_)
  obtain ⟨M_2, eM_2⟩ : ∃ y : Sg, y = sA M_1 6 x3.toNatClampNeg x2 := ⟨_, rfl⟩
  rw [← eM_2] at hw
  have h := h M_2 eM_2
  refine lv_aload_n X.1 X.2.1 dX2_add_79 rfl (lv_at hl 0 rfl) ?_
  refine lv_dup X.1 X.2.1 dX2_add_80 rfl ?_
  refine r_gf X inX2_add_X2 hw 2 rfl rfl 2 (by decide) (X.2.2.2.2 (.fieldLink RX2 18 "TestHall$Line" "size" "I") (by decide +kernel)) rfl rfl dX2_add_81 ?_
  refine lv_iconst (v := (1 : Int32)) X.1 X.2.1 dX2_add_84 (by decide) ?_
  refine lv_iadd X.1 X.2.1 dX2_add_85 ?_
  refine r_pf (ty := .int) (w' := cw κ η n (sI M_2 4 ((gI M_2 4) + (1 : Int32)))) X inX2_add_X2 tyX2_ok nmX2 hw 2 rfl rfl 2 (by decide) (X.2.2.2.2 (.fieldLink RX2 18 "TestHall$Line" "size" "I") (by decide +kernel)) rfl rfl (by decide +kernel) rfl rfl (Nat.le_of_ble_eq_true rfl) rfl dX2_add_86 (fun H locs hw => ?_)
  obtain ⟨M_3, eM_3⟩ : ∃ y : Sg, y = sI M_2 4 ((gI M_2 4) + (1 : Int32)) := ⟨_, rfl⟩
  rw [← eM_3] at hw
  have h := h M_3 eM_3
  exact r_vret X hr hlk hw h dX2_add_89
def vX2_add_15 (n : Nat) (Q : Sg → Prop) : Nat → Sg → Int32 → Int32 → Int32 → Prop
  | 0, _, _, _, _ => False
  | f15_ + 1, M, x1, x2, x3 => ((x3 ≤ 0 → (vX2_add_65 n Q M x1 x2 x3)) ∧ (¬ x3 ≤ 0 → (vp_in (x3 - (1 : Int32)) 60 ∧ ((x2 ≤ (gA M 6 (x3 - (1 : Int32)).toNatClampNeg) → (vX2_add_65 n Q M x1 x2 x3)) ∧ (¬ x2 ≤ (gA M 6 (x3 - (1 : Int32)).toNatClampNeg) → (vp_in (x3 - (1 : Int32)) 60 ∧ (vp_in x3 60 ∧ (∀ (M_1 : Sg), M_1 = sA M 5 x3.toNatClampNeg (gA M 5 (x3 - (1 : Int32)).toNatClampNeg) → (vp_in (x3 - (1 : Int32)) 60 ∧ (vp_in x3 60 ∧ (∀ (M_2 : Sg), M_2 = sA M_1 6 x3.toNatClampNeg (gA M_1 6 (x3 - (1 : Int32)).toNatClampNeg) → (∀ (x_3 : Int32), x_3 = x3 + (-1 : Int32) → (vX2_add_15 n Q f15_ M_2 x1 x2 x_3)))))))))))))
set_option maxHeartbeats 4000000 in
set_option maxRecDepth 100000 in
theorem bX2_add_15 {p : Program} {l : Launch} {e : Env} {s : State} {m : MethodId} {args : Array Value} {below : List Frame} {meth : Method} {c : Code} {D : va_G} {κ : Nat → ClassId} {η : Nat → Nat} {σ : (Nat → Nat) × (Nat → Nat)} {A : Nat → Prop} {n : Nat} {Q : Sg → Prop} (X : CallFix p m c cX2_add 4 s args wsX2_add RX2) (hr : meth.sig.returnType = none) (hlk : meth.locks = false) : ∀ (f_ : Nat) (M : Sg) (x1 : Int32) (x2 : Int32) (x3 : Int32) (H : Heap) (locs : List Loc) (ls : Array Slot), vX2_add_15 n Q f_ M x1 x2 x3 → Wd (cN σ) D (Ky κ) A s (cw κ η n M) H locs → lv_has ls 4 [(0, .ref (η 2)), (1, .int x1), (2, .int x2), (3, .int x3)] → W p l e rmX2_add s m args below meth c H locs 0 0 (MQ below (Qv D (Ky κ) (cw κ η n) A Q) args s 0 0 A) (F0 m 15 ls []) := by
  intro f_
  induction f_ with
  | zero => intro M x1 x2 x3 H locs ls h; exact h.elim
  | succ f_ hK15 =>
    intro M x1 x2 x3 H locs ls h hw hl
    refine lv_iload_n X.1 X.2.1 dX2_add_15 rfl (lv_at hl 3 rfl) ?_
    obtain ⟨ht_, hf_⟩ := h
    refine lv_if_le (tgt := 65) X.1 X.2.1 dX2_add_16 (by decide) (fun c_ => ?_) (fun c_ => ?_)
    · have h := ht_ c_
      exact bX2_add_65 X hr hlk M x1 x2 x3 _ _ _ h hw (lv_sub hl [0, 1, 2, 3] rfl)
    · have h := hf_ c_
      refine lv_aload_n X.1 X.2.1 dX2_add_19 rfl (lv_at hl 0 rfl) ?_
      refine r_gf X inX2_add_X2 hw 2 rfl rfl 1 (by decide) (X.2.2.2.2 (.fieldLink RX2 15 "TestHall$Line" "ranks" "[I") (by decide +kernel)) rfl rfl dX2_add_20 ?_
      refine lv_iload_n X.1 X.2.1 dX2_add_23 rfl (lv_at hl 3 rfl) ?_
      refine lv_iconst (v := (1 : Int32)) X.1 X.2.1 dX2_add_24 (by decide) ?_
      refine lv_isub X.1 X.2.1 dX2_add_25 ?_
      obtain ⟨hi_, h⟩ := h
      refine r_ial X hw 15 0 rfl rfl hi_ dX2_add_26 ?_
      refine lv_iload_n X.1 X.2.1 dX2_add_27 rfl (lv_at hl 2 rfl) ?_
      obtain ⟨ht_, hf_⟩ := h
      refine lv_icmp_ge (tgt := 65) X.1 X.2.1 dX2_add_28 (by decide) (fun c_ => ?_) (fun c_ => ?_)
      · have h := ht_ c_
        exact bX2_add_65 X hr hlk M x1 x2 x3 _ _ _ h hw (lv_sub hl [0, 1, 2, 3] rfl)
      · have h := hf_ c_
        refine lv_aload_n X.1 X.2.1 dX2_add_31 rfl (lv_at hl 0 rfl) ?_
        refine r_gf X inX2_add_X2 hw 2 rfl rfl 0 (by decide) (X.2.2.2.2 (.fieldLink RX2 9 "TestHall$Line" "numbers" "[I") (by decide +kernel)) rfl rfl dX2_add_32 ?_
        refine lv_iload_n X.1 X.2.1 dX2_add_35 rfl (lv_at hl 3 rfl) ?_
        refine lv_aload_n X.1 X.2.1 dX2_add_36 rfl (lv_at hl 0 rfl) ?_
        refine r_gf X inX2_add_X2 hw 2 rfl rfl 0 (by decide) (X.2.2.2.2 (.fieldLink RX2 9 "TestHall$Line" "numbers" "[I") (by decide +kernel)) rfl rfl dX2_add_37 ?_
        refine lv_iload_n X.1 X.2.1 dX2_add_40 rfl (lv_at hl 3 rfl) ?_
        refine lv_iconst (v := (1 : Int32)) X.1 X.2.1 dX2_add_41 (by decide) ?_
        refine lv_isub X.1 X.2.1 dX2_add_42 ?_
        obtain ⟨hi_, h⟩ := h
        refine r_ial X hw 14 0 rfl rfl hi_ dX2_add_43 ?_
        obtain ⟨hi_, h⟩ := h
        refine r_ias (w' := cw κ η n (sA M 5 x3.toNatClampNeg (gA M 5 (x3 - (1 : Int32)).toNatClampNeg))) X hw 14 0 rfl rfl hi_ rfl dX2_add_44 (fun H locs hw => ?_)
        obtain ⟨M_1, eM_1⟩ : ∃ y : Sg, y = sA M 5 x3.toNatClampNeg (gA M 5 (x3 - (1 : Int32)).toNatClampNeg) := ⟨_, rfl⟩
        rw [← eM_1] at hw
        have h := h M_1 eM_1
        refine lv_aload_n X.1 X.2.1 dX2_add_45 rfl (lv_at hl 0 rfl) ?_
        refine r_gf X inX2_add_X2 hw 2 rfl rfl 1 (by decide) (X.2.2.2.2 (.fieldLink RX2 15 "TestHall$Line" "ranks" "[I") (by decide +kernel)) rfl rfl dX2_add_46 ?_
        refine lv_iload_n X.1 X.2.1 dX2_add_49 rfl (lv_at hl 3 rfl) ?_
        refine lv_aload_n X.1 X.2.1 dX2_add_50 rfl (lv_at hl 0 rfl) ?_
        refine r_gf X inX2_add_X2 hw 2 rfl rfl 1 (by decide) (X.2.2.2.2 (.fieldLink RX2 15 "TestHall$Line" "ranks" "[I") (by decide +kernel)) rfl rfl dX2_add_51 ?_
        refine lv_iload_n X.1 X.2.1 dX2_add_54 rfl (lv_at hl 3 rfl) ?_
        refine lv_iconst (v := (1 : Int32)) X.1 X.2.1 dX2_add_55 (by decide) ?_
        refine lv_isub X.1 X.2.1 dX2_add_56 ?_
        obtain ⟨hi_, h⟩ := h
        refine r_ial X hw 15 0 rfl rfl hi_ dX2_add_57 ?_
        obtain ⟨hi_, h⟩ := h
        refine r_ias (w' := cw κ η n (sA M_1 6 x3.toNatClampNeg (gA M_1 6 (x3 - (1 : Int32)).toNatClampNeg))) X hw 15 0 rfl rfl hi_ rfl dX2_add_58 (fun H locs hw => ?_)
        obtain ⟨M_2, eM_2⟩ : ∃ y : Sg, y = sA M_1 6 x3.toNatClampNeg (gA M_1 6 (x3 - (1 : Int32)).toNatClampNeg) := ⟨_, rfl⟩
        rw [← eM_2] at hw
        have h := h M_2 eM_2
        obtain ⟨x_3, ex_3⟩ : ∃ y : Int32, y = x3 + (-1 : Int32) := ⟨_, rfl⟩
        have h := h x_3 ex_3
        refine lv_iinc (v := x_3) (lv' := [(3, .int x_3), (0, .ref (η 2)), (1, .int x1), (2, .int x2)]) X.1 X.2.1 dX2_add_59 hl (k := 3) rfl (by rw [ex_3]; rfl) (by decide) rfl (fun ls hl => ?_)
        refine lv_goto (tgt := 15) X.1 X.2.1 dX2_add_62 (by decide) ?_
        exact hK15 M_2 x1 x2 x_3 _ _ _ h hw (lv_sub hl [1, 2, 3, 0] rfl)
def wX2_add (n : Nat) (M : Sg) (a1 : Int32) (a2 : Int32) (Q : Sg → Prop) : Prop := (((gI M 4) < (60 : Int32) → (∀ (x_1 : Int32), x_1 = (gI M 4) → (∃ g15_ : Nat, vX2_add_15 n Q g15_ M a1 a2 x_1))) ∧ (¬ (gI M 4) < (60 : Int32) → (Q M)))
set_option maxHeartbeats 4000000 in
set_option maxRecDepth 100000 in
theorem kX2_add {l : Launch} {D : va_G} {κ : Nat → ClassId} {η : Nat → Nat} {σ : (Nat → Nat) × (Nat → Nat)} {n : Nat} {M : Sg} {a1 : Int32} {a2 : Int32} {Q : Sg → Prop} (h : wX2_add n M a1 a2 Q) : Kv (cN σ) D (Ky κ) (cw κ η n) l yX2_add wsX2_add rmX2_add [.ref (η 2), .int a1, .int a2] M Q := by
  refine ofW_g (Qc := fun A => Qv D (Ky κ) (cw κ η n) A Q) (cc := cX2_add) (maxL := 4) (ret := none) (by decide) rfl (Nat.le_of_ble_eq_true rfl) ?_
  intro p e s m args below meth c A ls X hr hlk hw hl
  have hl : lv_has ls 4 [(0, .ref (η 2)), (1, .int a1), (2, .int a2)] := hl
  refine lv_aload_n X.1 X.2.1 dX2_add_0 rfl (lv_at hl 0 rfl) ?_
  refine r_gf X inX2_add_X2 hw 2 rfl rfl 2 (by decide) (X.2.2.2.2 (.fieldLink RX2 18 "TestHall$Line" "size" "I") (by decide +kernel)) rfl rfl dX2_add_1 ?_
  refine lv_bipush (v := (60 : Int32)) X.1 X.2.1 dX2_add_4 (by decide) ?_
  obtain ⟨ht_, hf_⟩ := h
  refine lv_icmp_lt (tgt := 10) X.1 X.2.1 dX2_add_6 (by decide) (fun c_ => ?_) (fun c_ => ?_)
  · have h := ht_ c_
    refine lv_aload_n X.1 X.2.1 dX2_add_10 rfl (lv_at hl 0 rfl) ?_
    refine r_gf X inX2_add_X2 hw 2 rfl rfl 2 (by decide) (X.2.2.2.2 (.fieldLink RX2 18 "TestHall$Line" "size" "I") (by decide +kernel)) rfl rfl dX2_add_11 ?_
    refine lv_topi (fun x_1 ex_1 => ?_)
    have h := h x_1 ex_1
    refine lv_istore_n (lv' := [(3, .int x_1), (0, .ref (η 2)), (1, .int a1), (2, .int a2)]) X.1 X.2.1 dX2_add_14 rfl hl (by decide) rfl (fun ls hl => ?_)
    obtain ⟨f_, h⟩ := h
    exact bX2_add_15 X hr hlk f_ M a1 a2 x_1 _ _ _ h hw (lv_sub hl [1, 2, 3, 0] rfl)
  · have h := hf_ c_
    exact r_vret X hr hlk hw h dX2_add_9

theorem inX2_placeOf_X2 : ∀ w ∈ wsX20, w ∈ wsX2_placeOf := fun w h => List.mem_cons_of_mem _ (List.mem_append_right _ h)
abbrev rmX2_placeOf : Room := { frames := 0, cells := 0, slots := 0, locals := 0 }
def vX2_placeOf_2 (n : Nat) (Q : Sg → Int32 → Prop) : Nat → Sg → Int32 → Int32 → Prop
  | 0, _, _, _ => False
  | f2_ + 1, M, x1, x2 => (((gI M 4) ≤ x2 → (Q M (-1 : Int32))) ∧ (¬ (gI M 4) ≤ x2 → (vp_in x2 60 ∧ ((¬ (gA M 5 x2.toNatClampNeg) = x1 → (∀ (x_1 : Int32), x_1 = x2 + (1 : Int32) → (vX2_placeOf_2 n Q f2_ M x1 x_1))) ∧ ((gA M 5 x2.toNatClampNeg) = x1 → (Q M x2))))))
set_option maxHeartbeats 4000000 in
set_option maxRecDepth 100000 in
theorem bX2_placeOf_2 {p : Program} {l : Launch} {e : Env} {s : State} {m : MethodId} {args : Array Value} {below : List Frame} {meth : Method} {c : Code} {D : va_G} {κ : Nat → ClassId} {η : Nat → Nat} {σ : (Nat → Nat) × (Nat → Nat)} {A : Nat → Prop} {n : Nat} {Q : Sg → Int32 → Prop} (X : CallFix p m c cX2_placeOf 3 s args wsX2_placeOf RX2) (hr : meth.sig.returnType = (some .int)) (hlk : meth.locks = false) : ∀ (f_ : Nat) (M : Sg) (x1 : Int32) (x2 : Int32) (H : Heap) (locs : List Loc) (ls : Array Slot), vX2_placeOf_2 n Q f_ M x1 x2 → Wd (cN σ) D (Ky κ) A s (cw κ η n M) H locs → lv_has ls 3 [(0, .ref (η 2)), (1, .int x1), (2, .int x2)] → W p l e rmX2_placeOf s m args below meth c H locs 0 0 (MQ below (Qi D (Ky κ) (cw κ η n) A Q) args s 0 0 A) (F0 m 2 ls []) := by
  intro f_
  induction f_ with
  | zero => intro M x1 x2 H locs ls h; exact h.elim
  | succ f_ hK2 =>
    intro M x1 x2 H locs ls h hw hl
    refine lv_iload_n X.1 X.2.1 dX2_placeOf_2 rfl (lv_at hl 2 rfl) ?_
    refine lv_aload_n X.1 X.2.1 dX2_placeOf_3 rfl (lv_at hl 0 rfl) ?_
    refine r_gf X inX2_placeOf_X2 hw 2 rfl rfl 2 (by decide) (X.2.2.2.2 (.fieldLink RX2 18 "TestHall$Line" "size" "I") (by decide +kernel)) rfl rfl dX2_placeOf_4 ?_
    obtain ⟨ht_, hf_⟩ := h
    refine lv_icmp_ge (tgt := 28) X.1 X.2.1 dX2_placeOf_7 (by decide) (fun c_ => ?_) (fun c_ => ?_)
    · have h := ht_ c_
      refine lv_iconst (v := (-1 : Int32)) X.1 X.2.1 dX2_placeOf_28 (by decide) ?_
      exact r_ret X hr hlk hw h dX2_placeOf_29
    · have h := hf_ c_
      refine lv_aload_n X.1 X.2.1 dX2_placeOf_10 rfl (lv_at hl 0 rfl) ?_
      refine r_gf X inX2_placeOf_X2 hw 2 rfl rfl 0 (by decide) (X.2.2.2.2 (.fieldLink RX2 9 "TestHall$Line" "numbers" "[I") (by decide +kernel)) rfl rfl dX2_placeOf_11 ?_
      refine lv_iload_n X.1 X.2.1 dX2_placeOf_14 rfl (lv_at hl 2 rfl) ?_
      obtain ⟨hi_, h⟩ := h
      refine r_ial X hw 14 0 rfl rfl hi_ dX2_placeOf_15 ?_
      refine lv_iload_n X.1 X.2.1 dX2_placeOf_16 rfl (lv_at hl 1 rfl) ?_
      obtain ⟨ht_, hf_⟩ := h
      refine lv_icmp_ne (tgt := 22) X.1 X.2.1 dX2_placeOf_17 (by decide) (fun c_ => ?_) (fun c_ => ?_)
      · have h := ht_ c_
        obtain ⟨x_1, ex_1⟩ : ∃ y : Int32, y = x2 + (1 : Int32) := ⟨_, rfl⟩
        have h := h x_1 ex_1
        refine lv_iinc (v := x_1) (lv' := [(2, .int x_1), (0, .ref (η 2)), (1, .int x1)]) X.1 X.2.1 dX2_placeOf_22 hl (k := 2) rfl (by rw [ex_1]; rfl) (by decide) rfl (fun ls hl => ?_)
        refine lv_goto (tgt := 2) X.1 X.2.1 dX2_placeOf_25 (by decide) ?_
        exact hK2 M x1 x_1 _ _ _ h hw (lv_sub hl [1, 2, 0] rfl)
      · have h := hf_ c_
        refine lv_iload_n X.1 X.2.1 dX2_placeOf_20 rfl (lv_at hl 2 rfl) ?_
        exact r_ret X hr hlk hw h dX2_placeOf_21
def wX2_placeOf (n : Nat) (M : Sg) (a1 : Int32) (Q : Sg → Int32 → Prop) : Prop := (∃ g2_ : Nat, vX2_placeOf_2 n Q g2_ M a1 (0 : Int32))
set_option maxHeartbeats 4000000 in
set_option maxRecDepth 100000 in
theorem kX2_placeOf {l : Launch} {D : va_G} {κ : Nat → ClassId} {η : Nat → Nat} {σ : (Nat → Nat) × (Nat → Nat)} {n : Nat} {M : Sg} {a1 : Int32} {Q : Sg → Int32 → Prop} (h : wX2_placeOf n M a1 Q) : Ki (cN σ) D (Ky κ) (cw κ η n) l yX2_placeOf wsX2_placeOf rmX2_placeOf [.ref (η 2), .int a1] M Q := by
  refine ofW_g (Qc := fun A => Qi D (Ky κ) (cw κ η n) A Q) (cc := cX2_placeOf) (maxL := 3) (ret := (some .int)) (by decide) rfl (Nat.le_of_ble_eq_true rfl) ?_
  intro p e s m args below meth c A ls X hr hlk hw hl
  have hl : lv_has ls 3 [(0, .ref (η 2)), (1, .int a1)] := hl
  refine lv_iconst (v := (0 : Int32)) X.1 X.2.1 dX2_placeOf_0 (by decide) ?_
  refine lv_istore_n (lv' := [(2, .int (0 : Int32)), (0, .ref (η 2)), (1, .int a1)]) X.1 X.2.1 dX2_placeOf_1 rfl hl (by decide) rfl (fun ls hl => ?_)
  obtain ⟨f_, h⟩ := h
  exact bX2_placeOf_2 X hr hlk f_ M a1 (0 : Int32) _ _ _ h hw (lv_sub hl [1, 2, 0] rfl)

abbrev rmX8_isWithin : Room := { frames := 0, cells := 0, slots := 0, locals := 0 }
def wX8_isWithin (n : Nat) (M : Sg) (a0 : Int32) (a1 : Int32) (a2 : Int32) (Q : Sg → Int32 → Prop) : Prop := ((a0 < a1 → (Q M (0 : Int32))) ∧ (¬ a0 < a1 → ((a2 < a0 → (Q M (0 : Int32))) ∧ (¬ a2 < a0 → (Q M (1 : Int32))))))
set_option maxHeartbeats 4000000 in
set_option maxRecDepth 100000 in
theorem kX8_isWithin {l : Launch} {D : va_G} {κ : Nat → ClassId} {η : Nat → Nat} {σ : (Nat → Nat) × (Nat → Nat)} {n : Nat} {M : Sg} {a0 : Int32} {a1 : Int32} {a2 : Int32} {Q : Sg → Int32 → Prop} (h : wX8_isWithin n M a0 a1 a2 Q) : Ki (cN σ) D (Ky κ) (cw κ η n) l yX8_isWithin wsX8_isWithin rmX8_isWithin [.int a0, .int a1, .int a2] M Q := by
  refine ofW_g (Qc := fun A => Qi D (Ky κ) (cw κ η n) A Q) (cc := cX8_isWithin) (maxL := 3) (ret := (some .boolean)) (by decide) rfl (Nat.le_of_ble_eq_true rfl) ?_
  intro p e s m args below meth c A ls X hr hlk hw hl
  have hl : lv_has ls 3 [(0, .int a0), (1, .int a1), (2, .int a2)] := hl
  refine lv_iload_n X.1 X.2.1 dX8_isWithin_0 rfl (lv_at hl 0 rfl) ?_
  refine lv_iload_n X.1 X.2.1 dX8_isWithin_1 rfl (lv_at hl 1 rfl) ?_
  obtain ⟨ht_, hf_⟩ := h
  refine lv_icmp_lt (tgt := 14) X.1 X.2.1 dX8_isWithin_2 (by decide) (fun c_ => ?_) (fun c_ => ?_)
  · have h := ht_ c_
    refine lv_iconst (v := (0 : Int32)) X.1 X.2.1 dX8_isWithin_14 (by decide) ?_
    exact r_zret X hr hlk hw rfl h dX8_isWithin_15
  · have h := hf_ c_
    refine lv_iload_n X.1 X.2.1 dX8_isWithin_5 rfl (lv_at hl 0 rfl) ?_
    refine lv_iload_n X.1 X.2.1 dX8_isWithin_6 rfl (lv_at hl 2 rfl) ?_
    obtain ⟨ht_, hf_⟩ := h
    refine lv_icmp_gt (tgt := 14) X.1 X.2.1 dX8_isWithin_7 (by decide) (fun c_ => ?_) (fun c_ => ?_)
    · have h := ht_ c_
      refine lv_iconst (v := (0 : Int32)) X.1 X.2.1 dX8_isWithin_14 (by decide) ?_
      exact r_zret X hr hlk hw rfl h dX8_isWithin_15
    · have h := hf_ c_
      refine lv_iconst (v := (1 : Int32)) X.1 X.2.1 dX8_isWithin_10 (by decide) ?_
      refine lv_goto (tgt := 15) X.1 X.2.1 dX8_isWithin_11 (by decide) ?_
      exact r_zret X hr hlk hw rfl h dX8_isWithin_15

theorem inX3_hasRoomAt_X3 : ∀ w ∈ wsX30, w ∈ wsX3_hasRoomAt := fun w h => List.mem_cons_of_mem _ (List.mem_append_right _ h)
abbrev rmX3_hasRoomAt : Room := { frames := 1, cells := 0, slots := 0, locals := 22 }
def wX3_hasRoomAt (n : Nat) (M : Sg) (a1 : Int32) (Q : Sg → Int32 → Prop) : Prop := (wX8_isWithin n M a1 (0 : Int32) (11 : Int32) (fun M_1 r_2 => ((r_2 = 0 → (Q M_1 (0 : Int32))) ∧ (¬ r_2 = 0 → (vp_in a1 12 ∧ (((4 : Int32) ≤ (gA M_1 24 a1.toNatClampNeg) → (Q M_1 (0 : Int32))) ∧ (¬ (4 : Int32) ≤ (gA M_1 24 a1.toNatClampNeg) → (Q M_1 (1 : Int32)))))))))
set_option maxHeartbeats 4000000 in
set_option maxRecDepth 100000 in
theorem kX3_hasRoomAt {l : Launch} {D : va_G} {κ : Nat → ClassId} {η : Nat → Nat} {σ : (Nat → Nat) × (Nat → Nat)} {n : Nat} {M : Sg} {a1 : Int32} {Q : Sg → Int32 → Prop} (h : wX3_hasRoomAt n M a1 Q) : Ki (cN σ) D (Ky κ) (cw κ η n) l yX3_hasRoomAt wsX3_hasRoomAt rmX3_hasRoomAt [.ref (η 5), .int a1] M Q := by
  refine ofW_g (Qc := fun A => Qi D (Ky κ) (cw κ η n) A Q) (cc := cX3_hasRoomAt) (maxL := 2) (ret := (some .boolean)) (by decide) rfl (Nat.le_of_ble_eq_true rfl) ?_
  intro p e s m args below meth c A ls X hr hlk hw hl
  have hl : lv_has ls 2 [(0, .ref (η 5)), (1, .int a1)] := hl
  refine lv_iload_n X.1 X.2.1 dX3_hasRoomAt_0 rfl (lv_at hl 1 rfl) ?_
  refine lv_iconst (v := (0 : Int32)) X.1 X.2.1 dX3_hasRoomAt_1 (by decide) ?_
  refine lv_bipush (v := (11 : Int32)) X.1 X.2.1 dX3_hasRoomAt_2 (by decide) ?_
  refine r_SNi (As := [.int a1, .int (0 : Int32), .int (11 : Int32)]) (rest := []) X cN_ok (kX8_isWithin h) ⟨va_cnB 3 X.2.2.2.2 gX3_hasRoomAt_X8_isWithin_n50 rfl rfl rfl (cN_X3_50 hw.2.2.2.2.2) (X.2.2.2.2 _ (by decide +kernel)) (by decide +kernel) ⟨Nat.le_of_ble_eq_true rfl, Nat.le_of_ble_eq_true rfl⟩, X.2.2.2.2 _ (by decide +kernel), trivial⟩ hw rfl hl.1 rfl (Nat.le_of_ble_eq_true rfl) dX3_hasRoomAt_4 (fun r_2 M_1 H locs h hw => ?_)
  obtain ⟨ht_, hf_⟩ := h
  refine lv_if_eq (tgt := 24) X.1 X.2.1 dX3_hasRoomAt_7 (by decide) (fun c_ => ?_) (fun c_ => ?_)
  · have h := ht_ c_
    refine lv_iconst (v := (0 : Int32)) X.1 X.2.1 dX3_hasRoomAt_24 (by decide) ?_
    exact r_zret X hr hlk hw rfl h dX3_hasRoomAt_25
  · have h := hf_ c_
    refine lv_aload_n X.1 X.2.1 dX3_hasRoomAt_10 rfl (lv_at hl 0 rfl) ?_
    refine r_gf X inX3_hasRoomAt_X3 hw 5 rfl rfl 6 (by decide) (X.2.2.2.2 (.fieldLink RX3 33 "TestHall$Streets" "sizeAt" "[I") (by decide +kernel)) rfl rfl dX3_hasRoomAt_11 ?_
    refine lv_iload_n X.1 X.2.1 dX3_hasRoomAt_14 rfl (lv_at hl 1 rfl) ?_
    obtain ⟨hi_, h⟩ := h
    refine r_ial X hw 33 0 rfl rfl hi_ dX3_hasRoomAt_15 ?_
    refine lv_iconst (v := (4 : Int32)) X.1 X.2.1 dX3_hasRoomAt_16 (by decide) ?_
    obtain ⟨ht_, hf_⟩ := h
    refine lv_icmp_ge (tgt := 24) X.1 X.2.1 dX3_hasRoomAt_17 (by decide) (fun c_ => ?_) (fun c_ => ?_)
    · have h := ht_ c_
      refine lv_iconst (v := (0 : Int32)) X.1 X.2.1 dX3_hasRoomAt_24 (by decide) ?_
      exact r_zret X hr hlk hw rfl h dX3_hasRoomAt_25
    · have h := hf_ c_
      refine lv_iconst (v := (1 : Int32)) X.1 X.2.1 dX3_hasRoomAt_20 (by decide) ?_
      refine lv_goto (tgt := 25) X.1 X.2.1 dX3_hasRoomAt_21 (by decide) ?_
      exact r_zret X hr hlk hw rfl h dX3_hasRoomAt_25

theorem inX3_putAt_X3 : ∀ w ∈ wsX30, w ∈ wsX3_putAt := fun w h => List.mem_cons_of_mem _ (List.mem_append_right _ h)
abbrev rmX3_putAt : Room := { frames := 2, cells := 0, slots := 0, locals := 43 }
def wX3_putAt (n : Nat) (M : Sg) (a1 : Int32) (a2 : Int32) (Q : Sg → Prop) : Prop := (wX3_hasRoomAt n M a1 (fun M_1 r_2 => ((r_2 = 0 → (Q M_1)) ∧ (¬ r_2 = 0 → (vp_in a1 12 ∧ (vp_in a1 12 ∧ ((vp_in (gA M_1 24 a1.toNatClampNeg) 4 ∧ (a1.toNatClampNeg) < 12) ∧ (∀ (M_3 : Sg), M_3 = sA M_1 (30 + (a1.toNatClampNeg)) (gA M_1 24 a1.toNatClampNeg).toNatClampNeg a2 → (vp_in a1 12 ∧ (vp_in a1 12 ∧ (∀ (M_4 : Sg), M_4 = sA M_3 24 a1.toNatClampNeg ((gA M_3 24 a1.toNatClampNeg) + (1 : Int32)) → (Q M_4))))))))))))
set_option maxHeartbeats 4000000 in
set_option maxRecDepth 100000 in
theorem kX3_putAt {l : Launch} {D : va_G} {κ : Nat → ClassId} {η : Nat → Nat} {σ : (Nat → Nat) × (Nat → Nat)} {n : Nat} {M : Sg} {a1 : Int32} {a2 : Int32} {Q : Sg → Prop} (h : wX3_putAt n M a1 a2 Q) : Kv (cN σ) D (Ky κ) (cw κ η n) l yX3_putAt wsX3_putAt rmX3_putAt [.ref (η 5), .int a1, .int a2] M Q := by
  refine ofW_g (Qc := fun A => Qv D (Ky κ) (cw κ η n) A Q) (cc := cX3_putAt) (maxL := 3) (ret := none) (by decide) rfl (Nat.le_of_ble_eq_true rfl) ?_
  intro p e s m args below meth c A ls X hr hlk hw hl
  have hl : lv_has ls 3 [(0, .ref (η 5)), (1, .int a1), (2, .int a2)] := hl
  refine lv_aload_n X.1 X.2.1 dX3_putAt_0 rfl (lv_at hl 0 rfl) ?_
  refine lv_iload_n X.1 X.2.1 dX3_putAt_1 rfl (lv_at hl 1 rfl) ?_
  refine r_Vi (As := [.int a1]) (rest := []) X cN_ok (kX3_hasRoomAt h) (cwV 1 X.2.2.2.2 gX3_putAt_X3_hasRoomAt rfl rfl rfl (by decide +kernel) ⟨Nat.le_of_ble_eq_true rfl, Nat.le_of_ble_eq_true rfl⟩) hw 5 3 rfl rfl rfl hl.1 rfl (Nat.le_of_ble_eq_true rfl) dX3_putAt_2 (fun r_2 M_1 H locs h hw => ?_)
  obtain ⟨ht_, hf_⟩ := h
  refine lv_if_eq (tgt := 32) X.1 X.2.1 dX3_putAt_5 (by decide) (fun c_ => ?_) (fun c_ => ?_)
  · have h := ht_ c_
    exact r_vret X hr hlk hw h dX3_putAt_32
  · have h := hf_ c_
    refine lv_aload_n X.1 X.2.1 dX3_putAt_8 rfl (lv_at hl 0 rfl) ?_
    refine r_gf X inX3_putAt_X3 hw 5 rfl rfl 5 (by decide) (X.2.2.2.2 (.fieldLink RX3 30 "TestHall$Streets" "streetsAt" "[[I") (by decide +kernel)) rfl rfl dX3_putAt_9 ?_
    refine lv_iload_n X.1 X.2.1 dX3_putAt_12 rfl (lv_at hl 1 rfl) ?_
    obtain ⟨hi_, h⟩ := h
    refine r_row X hw hi_ dX3_putAt_13 ?_
    refine lv_aload_n X.1 X.2.1 dX3_putAt_14 rfl (lv_at hl 0 rfl) ?_
    refine r_gf X inX3_putAt_X3 hw 5 rfl rfl 6 (by decide) (X.2.2.2.2 (.fieldLink RX3 33 "TestHall$Streets" "sizeAt" "[I") (by decide +kernel)) rfl rfl dX3_putAt_15 ?_
    refine lv_iload_n X.1 X.2.1 dX3_putAt_18 rfl (lv_at hl 1 rfl) ?_
    obtain ⟨hi_, h⟩ := h
    refine r_ial X hw 33 0 rfl rfl hi_ dX3_putAt_19 ?_
    refine lv_iload_n X.1 X.2.1 dX3_putAt_20 rfl (lv_at hl 2 rfl) ?_
    obtain ⟨hi_, h⟩ := h
    refine r_ias (w' := cw κ η n (sA M_1 (30 + (a1.toNatClampNeg)) (gA M_1 24 a1.toNatClampNeg).toNatClampNeg a2)) X hw (37 + (a1.toNatClampNeg)) 0 (cw_row hi_.2) rfl hi_.1 (cw_rset hi_.2) dX3_putAt_21 (fun H locs hw => ?_)
    obtain ⟨M_3, eM_3⟩ : ∃ y : Sg, y = sA M_1 (30 + (a1.toNatClampNeg)) (gA M_1 24 a1.toNatClampNeg).toNatClampNeg a2 := ⟨_, rfl⟩
    rw [← eM_3] at hw
    have h := h M_3 eM_3
    refine lv_aload_n X.1 X.2.1 dX3_putAt_22 rfl (lv_at hl 0 rfl) ?_
    refine r_gf X inX3_putAt_X3 hw 5 rfl rfl 6 (by decide) (X.2.2.2.2 (.fieldLink RX3 33 "TestHall$Streets" "sizeAt" "[I") (by decide +kernel)) rfl rfl dX3_putAt_23 ?_
    refine lv_iload_n X.1 X.2.1 dX3_putAt_26 rfl (lv_at hl 1 rfl) ?_
    refine lv_dup2_11 X.1 X.2.1 dX3_putAt_27 rfl rfl ?_
    obtain ⟨hi_, h⟩ := h
    refine r_ial X hw 33 0 rfl rfl hi_ dX3_putAt_28 ?_
    refine lv_iconst (v := (1 : Int32)) X.1 X.2.1 dX3_putAt_29 (by decide) ?_
    refine lv_iadd X.1 X.2.1 dX3_putAt_30 ?_
    obtain ⟨hi_, h⟩ := h
    refine r_ias (w' := cw κ η n (sA M_3 24 a1.toNatClampNeg ((gA M_3 24 a1.toNatClampNeg) + (1 : Int32)))) X hw 33 0 rfl rfl hi_ rfl dX3_putAt_31 (fun H locs hw => ?_)
    obtain ⟨M_4, eM_4⟩ : ∃ y : Sg, y = sA M_3 24 a1.toNatClampNeg ((gA M_3 24 a1.toNatClampNeg) + (1 : Int32)) := ⟨_, rfl⟩
    rw [← eM_4] at hw
    have h := h M_4 eM_4
    exact r_vret X hr hlk hw h dX3_putAt_32

theorem inX3_add_X3 : ∀ w ∈ wsX30, w ∈ wsX3_add := fun w h => List.mem_cons_of_mem _ (List.mem_append_right _ h)
abbrev rmX3_add : Room := { frames := 3, cells := 0, slots := 0, locals := 65 }
def wX3_add (n : Nat) (M : Sg) (a1 : Int32) (a2 : Int32) (a3 : Int32) (a4 : Int32) (Q : Sg → Int32 → Prop) : Prop := (wX3_hasRoomAt n M a1 (fun M_1 r_2 => ((r_2 = 0 → (Q M_1 (-1 : Int32))) ∧ (¬ r_2 = 0 → (wX3_hasRoomAt n M_1 a2 (fun M_3 r_4 => ((r_4 = 0 → (Q M_3 (-1 : Int32))) ∧ (¬ r_4 = 0 → ((a1 = a2 → (Q M_3 (-1 : Int32))) ∧ (¬ a1 = a2 → (((gI M_3 5) < (24 : Int32) → (wX8_isWithin n M_3 a3 (1 : Int32) (30 : Int32) (fun M_5 r_6 => ((r_6 = 0 → (Q M_5 (-1 : Int32))) ∧ (¬ r_6 = 0 → (wX8_isWithin n M_5 a4 (0 : Int32) (255 : Int32) (fun M_7 r_8 => ((¬ r_8 = 0 → (vp_in (gI M_7 5) 24 ∧ (∀ (M_9 : Sg), M_9 = sA M_7 19 (gI M_7 5).toNatClampNeg a1 → (vp_in (gI M_9 5) 24 ∧ (∀ (M_10 : Sg), M_10 = sA M_9 20 (gI M_9 5).toNatClampNeg a2 → (vp_in (gI M_10 5) 24 ∧ (∀ (M_11 : Sg), M_11 = sA M_10 21 (gI M_10 5).toNatClampNeg a3 → (vp_in (gI M_11 5) 24 ∧ (∀ (M_12 : Sg), M_12 = sA M_11 22 (gI M_11 5).toNatClampNeg a4 → (wX3_putAt n M_12 a1 (gI M_12 5) (fun M_13 => (wX3_putAt n M_13 a2 (gI M_13 5) (fun M_15 => (∀ (M_17 : Sg), M_17 = sI M_15 5 ((gI M_15 5) + (1 : Int32)) → (Q M_17 ((gI M_17 5) - (1 : Int32))))))))))))))))) ∧ (r_8 = 0 → (Q M_7 (-1 : Int32))))))))))) ∧ (¬ (gI M_3 5) < (24 : Int32) → (Q M_3 (-1 : Int32))))))))))))))
set_option maxHeartbeats 4000000 in
set_option maxRecDepth 100000 in
theorem kX3_add {l : Launch} {D : va_G} {κ : Nat → ClassId} {η : Nat → Nat} {σ : (Nat → Nat) × (Nat → Nat)} {n : Nat} {M : Sg} {a1 : Int32} {a2 : Int32} {a3 : Int32} {a4 : Int32} {Q : Sg → Int32 → Prop} (h : wX3_add n M a1 a2 a3 a4 Q) : Ki (cN σ) D (Ky κ) (cw κ η n) l yX3_add wsX3_add rmX3_add [.ref (η 5), .int a1, .int a2, .int a3, .int a4] M Q := by
  refine ofW_g (Qc := fun A => Qi D (Ky κ) (cw κ η n) A Q) (cc := cX3_add) (maxL := 5) (ret := (some .int)) (by decide) rfl (Nat.le_of_ble_eq_true rfl) ?_
  intro p e s m args below meth c A ls X hr hlk hw hl
  have hl : lv_has ls 5 [(0, .ref (η 5)), (1, .int a1), (2, .int a2), (3, .int a3), (4, .int a4)] := hl
  refine lv_aload_n X.1 X.2.1 dX3_add_0 rfl (lv_at hl 0 rfl) ?_
  refine lv_iload_n X.1 X.2.1 dX3_add_1 rfl (lv_at hl 1 rfl) ?_
  refine r_Vi (As := [.int a1]) (rest := []) X cN_ok (kX3_hasRoomAt h) (cwV 1 X.2.2.2.2 gX3_add_X3_hasRoomAt rfl rfl rfl (by decide +kernel) ⟨Nat.le_of_ble_eq_true rfl, Nat.le_of_ble_eq_true rfl⟩) hw 5 3 rfl rfl rfl hl.1 rfl (Nat.le_of_ble_eq_true rfl) dX3_add_2 (fun r_2 M_1 H locs h hw => ?_)
  obtain ⟨ht_, hf_⟩ := h
  refine lv_if_eq (tgt := 30) X.1 X.2.1 dX3_add_5 (by decide) (fun c_ => ?_) (fun c_ => ?_)
  · have h := ht_ c_
    refine lv_iconst (v := (-1 : Int32)) X.1 X.2.1 dX3_add_30 (by decide) ?_
    exact r_ret X hr hlk hw h dX3_add_31
  · have h := hf_ c_
    refine lv_aload_n X.1 X.2.1 dX3_add_8 rfl (lv_at hl 0 rfl) ?_
    refine lv_iload_n X.1 X.2.1 dX3_add_9 rfl (lv_at hl 2 rfl) ?_
    refine r_Vi (As := [.int a2]) (rest := []) X cN_ok (kX3_hasRoomAt h) (cwV 1 X.2.2.2.2 gX3_add_X3_hasRoomAt rfl rfl rfl (by decide +kernel) ⟨Nat.le_of_ble_eq_true rfl, Nat.le_of_ble_eq_true rfl⟩) hw 5 3 rfl rfl rfl hl.1 rfl (Nat.le_of_ble_eq_true rfl) dX3_add_10 (fun r_4 M_3 H locs h hw => ?_)
    obtain ⟨ht_, hf_⟩ := h
    refine lv_if_eq (tgt := 30) X.1 X.2.1 dX3_add_13 (by decide) (fun c_ => ?_) (fun c_ => ?_)
    · have h := ht_ c_
      refine lv_iconst (v := (-1 : Int32)) X.1 X.2.1 dX3_add_30 (by decide) ?_
      exact r_ret X hr hlk hw h dX3_add_31
    · have h := hf_ c_
      refine lv_iload_n X.1 X.2.1 dX3_add_16 rfl (lv_at hl 1 rfl) ?_
      refine lv_iload_n X.1 X.2.1 dX3_add_17 rfl (lv_at hl 2 rfl) ?_
      obtain ⟨ht_, hf_⟩ := h
      refine lv_icmp_eq (tgt := 30) X.1 X.2.1 dX3_add_18 (by decide) (fun c_ => ?_) (fun c_ => ?_)
      · have h := ht_ c_
        refine lv_iconst (v := (-1 : Int32)) X.1 X.2.1 dX3_add_30 (by decide) ?_
        exact r_ret X hr hlk hw h dX3_add_31
      · have h := hf_ c_
        refine lv_aload_n X.1 X.2.1 dX3_add_21 rfl (lv_at hl 0 rfl) ?_
        refine r_gf X inX3_add_X3 hw 5 rfl rfl 9 (by decide) (X.2.2.2.2 (.fieldLink RX3 46 "TestHall$Streets" "size" "I") (by decide +kernel)) rfl rfl dX3_add_22 ?_
        refine lv_bipush (v := (24 : Int32)) X.1 X.2.1 dX3_add_25 (by decide) ?_
        obtain ⟨ht_, hf_⟩ := h
        refine lv_icmp_lt (tgt := 32) X.1 X.2.1 dX3_add_27 (by decide) (fun c_ => ?_) (fun c_ => ?_)
        · have h := ht_ c_
          refine lv_iload_n X.1 X.2.1 dX3_add_32 rfl (lv_at hl 3 rfl) ?_
          refine lv_iconst (v := (1 : Int32)) X.1 X.2.1 dX3_add_33 (by decide) ?_
          refine lv_bipush (v := (30 : Int32)) X.1 X.2.1 dX3_add_34 (by decide) ?_
          refine r_SNi (As := [.int a3, .int (1 : Int32), .int (30 : Int32)]) (rest := []) X cN_ok (kX8_isWithin h) ⟨va_cnB 3 X.2.2.2.2 gX3_add_X8_isWithin_n50 rfl rfl rfl (cN_X3_50 hw.2.2.2.2.2) (X.2.2.2.2 _ (by decide +kernel)) (by decide +kernel) ⟨Nat.le_of_ble_eq_true rfl, Nat.le_of_ble_eq_true rfl⟩, X.2.2.2.2 _ (by decide +kernel), trivial⟩ hw rfl hl.1 rfl (Nat.le_of_ble_eq_true rfl) dX3_add_36 (fun r_6 M_5 H locs h hw => ?_)
          obtain ⟨ht_, hf_⟩ := h
          refine lv_if_eq (tgt := 54) X.1 X.2.1 dX3_add_39 (by decide) (fun c_ => ?_) (fun c_ => ?_)
          · have h := ht_ c_
            refine lv_iconst (v := (-1 : Int32)) X.1 X.2.1 dX3_add_54 (by decide) ?_
            exact r_ret X hr hlk hw h dX3_add_55
          · have h := hf_ c_
            refine lv_iload X.1 X.2.1 dX3_add_42 (lv_at hl 4 rfl) ?_
            refine lv_iconst (v := (0 : Int32)) X.1 X.2.1 dX3_add_44 (by decide) ?_
            refine lv_sipush (v := (255 : Int32)) X.1 X.2.1 dX3_add_45 (by decide) ?_
            refine r_SNi (As := [.int a4, .int (0 : Int32), .int (255 : Int32)]) (rest := []) X cN_ok (kX8_isWithin h) ⟨va_cnB 3 X.2.2.2.2 gX3_add_X8_isWithin_n50 rfl rfl rfl (cN_X3_50 hw.2.2.2.2.2) (X.2.2.2.2 _ (by decide +kernel)) (by decide +kernel) ⟨Nat.le_of_ble_eq_true rfl, Nat.le_of_ble_eq_true rfl⟩, X.2.2.2.2 _ (by decide +kernel), trivial⟩ hw rfl hl.1 rfl (Nat.le_of_ble_eq_true rfl) dX3_add_48 (fun r_8 M_7 H locs h hw => ?_)
            obtain ⟨ht_, hf_⟩ := h
            refine lv_if_ne (tgt := 56) X.1 X.2.1 dX3_add_51 (by decide) (fun c_ => ?_) (fun c_ => ?_)
            · have h := ht_ c_
              refine lv_aload_n X.1 X.2.1 dX3_add_56 rfl (lv_at hl 0 rfl) ?_
              refine r_gf X inX3_add_X3 hw 5 rfl rfl 0 (by decide) (X.2.2.2.2 (.fieldLink RX3 11 "TestHall$Streets" "ends" "[I") (by decide +kernel)) rfl rfl dX3_add_57 ?_
              refine lv_aload_n X.1 X.2.1 dX3_add_60 rfl (lv_at hl 0 rfl) ?_
              refine r_gf X inX3_add_X3 hw 5 rfl rfl 9 (by decide) (X.2.2.2.2 (.fieldLink RX3 46 "TestHall$Streets" "size" "I") (by decide +kernel)) rfl rfl dX3_add_61 ?_
              refine lv_iload_n X.1 X.2.1 dX3_add_64 rfl (lv_at hl 1 rfl) ?_
              obtain ⟨hi_, h⟩ := h
              refine r_ias (w' := cw κ η n (sA M_7 19 (gI M_7 5).toNatClampNeg a1)) X hw 28 0 rfl rfl hi_ rfl dX3_add_65 (fun H locs hw => ?_)
              obtain ⟨M_9, eM_9⟩ : ∃ y : Sg, y = sA M_7 19 (gI M_7 5).toNatClampNeg a1 := ⟨_, rfl⟩
              rw [← eM_9] at hw
              have h := h M_9 eM_9
              refine lv_aload_n X.1 X.2.1 dX3_add_66 rfl (lv_at hl 0 rfl) ?_
              refine r_gf X inX3_add_X3 hw 5 rfl rfl 1 (by decide) (X.2.2.2.2 (.fieldLink RX3 15 "TestHall$Streets" "otherEnds" "[I") (by decide +kernel)) rfl rfl dX3_add_67 ?_
              refine lv_aload_n X.1 X.2.1 dX3_add_70 rfl (lv_at hl 0 rfl) ?_
              refine r_gf X inX3_add_X3 hw 5 rfl rfl 9 (by decide) (X.2.2.2.2 (.fieldLink RX3 46 "TestHall$Streets" "size" "I") (by decide +kernel)) rfl rfl dX3_add_71 ?_
              refine lv_iload_n X.1 X.2.1 dX3_add_74 rfl (lv_at hl 2 rfl) ?_
              obtain ⟨hi_, h⟩ := h
              refine r_ias (w' := cw κ η n (sA M_9 20 (gI M_9 5).toNatClampNeg a2)) X hw 29 0 rfl rfl hi_ rfl dX3_add_75 (fun H locs hw => ?_)
              obtain ⟨M_10, eM_10⟩ : ∃ y : Sg, y = sA M_9 20 (gI M_9 5).toNatClampNeg a2 := ⟨_, rfl⟩
              rw [← eM_10] at hw
              have h := h M_10 eM_10
              refine lv_aload_n X.1 X.2.1 dX3_add_76 rfl (lv_at hl 0 rfl) ?_
              refine r_gf X inX3_add_X3 hw 5 rfl rfl 2 (by decide) (X.2.2.2.2 (.fieldLink RX3 18 "TestHall$Streets" "minutesOf" "[I") (by decide +kernel)) rfl rfl dX3_add_77 ?_
              refine lv_aload_n X.1 X.2.1 dX3_add_80 rfl (lv_at hl 0 rfl) ?_
              refine r_gf X inX3_add_X3 hw 5 rfl rfl 9 (by decide) (X.2.2.2.2 (.fieldLink RX3 46 "TestHall$Streets" "size" "I") (by decide +kernel)) rfl rfl dX3_add_81 ?_
              refine lv_iload_n X.1 X.2.1 dX3_add_84 rfl (lv_at hl 3 rfl) ?_
              obtain ⟨hi_, h⟩ := h
              refine r_ias (w' := cw κ η n (sA M_10 21 (gI M_10 5).toNatClampNeg a3)) X hw 30 0 rfl rfl hi_ rfl dX3_add_85 (fun H locs hw => ?_)
              obtain ⟨M_11, eM_11⟩ : ∃ y : Sg, y = sA M_10 21 (gI M_10 5).toNatClampNeg a3 := ⟨_, rfl⟩
              rw [← eM_11] at hw
              have h := h M_11 eM_11
              refine lv_aload_n X.1 X.2.1 dX3_add_86 rfl (lv_at hl 0 rfl) ?_
              refine r_gf X inX3_add_X3 hw 5 rfl rfl 3 (by decide) (X.2.2.2.2 (.fieldLink RX3 21 "TestHall$Streets" "marksOf" "[I") (by decide +kernel)) rfl rfl dX3_add_87 ?_
              refine lv_aload_n X.1 X.2.1 dX3_add_90 rfl (lv_at hl 0 rfl) ?_
              refine r_gf X inX3_add_X3 hw 5 rfl rfl 9 (by decide) (X.2.2.2.2 (.fieldLink RX3 46 "TestHall$Streets" "size" "I") (by decide +kernel)) rfl rfl dX3_add_91 ?_
              refine lv_iload X.1 X.2.1 dX3_add_94 (lv_at hl 4 rfl) ?_
              obtain ⟨hi_, h⟩ := h
              refine r_ias (w' := cw κ η n (sA M_11 22 (gI M_11 5).toNatClampNeg a4)) X hw 31 0 rfl rfl hi_ rfl dX3_add_96 (fun H locs hw => ?_)
              obtain ⟨M_12, eM_12⟩ : ∃ y : Sg, y = sA M_11 22 (gI M_11 5).toNatClampNeg a4 := ⟨_, rfl⟩
              rw [← eM_12] at hw
              have h := h M_12 eM_12
              refine lv_aload_n X.1 X.2.1 dX3_add_97 rfl (lv_at hl 0 rfl) ?_
              refine lv_iload_n X.1 X.2.1 dX3_add_98 rfl (lv_at hl 1 rfl) ?_
              refine lv_aload_n X.1 X.2.1 dX3_add_99 rfl (lv_at hl 0 rfl) ?_
              refine r_gf X inX3_add_X3 hw 5 rfl rfl 9 (by decide) (X.2.2.2.2 (.fieldLink RX3 46 "TestHall$Streets" "size" "I") (by decide +kernel)) rfl rfl dX3_add_100 ?_
              refine r_Vv (As := [.int a1, .int (gI M_12 5)]) (rest := []) X cN_ok (kX3_putAt h) (cwV 2 X.2.2.2.2 gX3_add_X3_putAt rfl rfl rfl (by decide +kernel) ⟨Nat.le_of_ble_eq_true rfl, Nat.le_of_ble_eq_true rfl⟩) hw 5 3 rfl rfl rfl hl.1 rfl (Nat.le_of_ble_eq_true rfl) dX3_add_103 (fun M_13 H locs h hw => ?_)
              refine lv_aload_n X.1 X.2.1 dX3_add_106 rfl (lv_at hl 0 rfl) ?_
              refine lv_iload_n X.1 X.2.1 dX3_add_107 rfl (lv_at hl 2 rfl) ?_
              refine lv_aload_n X.1 X.2.1 dX3_add_108 rfl (lv_at hl 0 rfl) ?_
              refine r_gf X inX3_add_X3 hw 5 rfl rfl 9 (by decide) (X.2.2.2.2 (.fieldLink RX3 46 "TestHall$Streets" "size" "I") (by decide +kernel)) rfl rfl dX3_add_109 ?_
              refine r_Vv (As := [.int a2, .int (gI M_13 5)]) (rest := []) X cN_ok (kX3_putAt h) (cwV 2 X.2.2.2.2 gX3_add_X3_putAt rfl rfl rfl (by decide +kernel) ⟨Nat.le_of_ble_eq_true rfl, Nat.le_of_ble_eq_true rfl⟩) hw 5 3 rfl rfl rfl hl.1 rfl (Nat.le_of_ble_eq_true rfl) dX3_add_112 (fun M_15 H locs h hw => ?_)
              refine lv_aload_n X.1 X.2.1 dX3_add_115 rfl (lv_at hl 0 rfl) ?_
              refine lv_dup X.1 X.2.1 dX3_add_116 rfl ?_
              refine r_gf X inX3_add_X3 hw 5 rfl rfl 9 (by decide) (X.2.2.2.2 (.fieldLink RX3 46 "TestHall$Streets" "size" "I") (by decide +kernel)) rfl rfl dX3_add_117 ?_
              refine lv_iconst (v := (1 : Int32)) X.1 X.2.1 dX3_add_120 (by decide) ?_
              refine lv_iadd X.1 X.2.1 dX3_add_121 ?_
              refine r_pf (ty := .int) (w' := cw κ η n (sI M_15 5 ((gI M_15 5) + (1 : Int32)))) X inX3_add_X3 tyX3_ok nmX3 hw 5 rfl rfl 9 (by decide) (X.2.2.2.2 (.fieldLink RX3 46 "TestHall$Streets" "size" "I") (by decide +kernel)) rfl rfl (by decide +kernel) rfl rfl (Nat.le_of_ble_eq_true rfl) rfl dX3_add_122 (fun H locs hw => ?_)
              obtain ⟨M_17, eM_17⟩ : ∃ y : Sg, y = sI M_15 5 ((gI M_15 5) + (1 : Int32)) := ⟨_, rfl⟩
              rw [← eM_17] at hw
              have h := h M_17 eM_17
              refine lv_aload_n X.1 X.2.1 dX3_add_125 rfl (lv_at hl 0 rfl) ?_
              refine r_gf X inX3_add_X3 hw 5 rfl rfl 9 (by decide) (X.2.2.2.2 (.fieldLink RX3 46 "TestHall$Streets" "size" "I") (by decide +kernel)) rfl rfl dX3_add_126 ?_
              refine lv_iconst (v := (1 : Int32)) X.1 X.2.1 dX3_add_129 (by decide) ?_
              refine lv_isub X.1 X.2.1 dX3_add_130 ?_
              exact r_ret X hr hlk hw h dX3_add_131
            · have h := hf_ c_
              refine lv_iconst (v := (-1 : Int32)) X.1 X.2.1 dX3_add_54 (by decide) ?_
              exact r_ret X hr hlk hw h dX3_add_55
        · have h := hf_ c_
          refine lv_iconst (v := (-1 : Int32)) X.1 X.2.1 dX3_add_30 (by decide) ?_
          exact r_ret X hr hlk hw h dX3_add_31

theorem inX3_setClosed_X3 : ∀ w ∈ wsX30, w ∈ wsX3_setClosed := fun w h => List.mem_cons_of_mem _ (List.mem_append_right _ h)
abbrev rmX3_setClosed : Room := { frames := 1, cells := 0, slots := 0, locals := 22 }
def wX3_setClosed (n : Nat) (M : Sg) (a1 : Int32) (a2 : Int32) (Q : Sg → Int32 → Prop) : Prop := (wX8_isWithin n M a1 (0 : Int32) ((gI M 5) - (1 : Int32)) (fun M_1 r_2 => ((¬ r_2 = 0 → (vp_in a1 24 ∧ (∀ (M_3 : Sg), M_3 = sA M_1 23 a1.toNatClampNeg (vp_nar .boolean a2) → (Q M_3 (1 : Int32))))) ∧ (r_2 = 0 → (Q M_1 (0 : Int32))))))
set_option maxHeartbeats 4000000 in
set_option maxRecDepth 100000 in
theorem kX3_setClosed {l : Launch} {D : va_G} {κ : Nat → ClassId} {η : Nat → Nat} {σ : (Nat → Nat) × (Nat → Nat)} {n : Nat} {M : Sg} {a1 : Int32} {a2 : Int32} {Q : Sg → Int32 → Prop} (h : wX3_setClosed n M a1 a2 Q) : Ki (cN σ) D (Ky κ) (cw κ η n) l yX3_setClosed wsX3_setClosed rmX3_setClosed [.ref (η 5), .int a1, .int a2] M Q := by
  refine ofW_g (Qc := fun A => Qi D (Ky κ) (cw κ η n) A Q) (cc := cX3_setClosed) (maxL := 3) (ret := (some .boolean)) (by decide) rfl (Nat.le_of_ble_eq_true rfl) ?_
  intro p e s m args below meth c A ls X hr hlk hw hl
  have hl : lv_has ls 3 [(0, .ref (η 5)), (1, .int a1), (2, .int a2)] := hl
  refine lv_iload_n X.1 X.2.1 dX3_setClosed_0 rfl (lv_at hl 1 rfl) ?_
  refine lv_iconst (v := (0 : Int32)) X.1 X.2.1 dX3_setClosed_1 (by decide) ?_
  refine lv_aload_n X.1 X.2.1 dX3_setClosed_2 rfl (lv_at hl 0 rfl) ?_
  refine r_gf X inX3_setClosed_X3 hw 5 rfl rfl 9 (by decide) (X.2.2.2.2 (.fieldLink RX3 46 "TestHall$Streets" "size" "I") (by decide +kernel)) rfl rfl dX3_setClosed_3 ?_
  refine lv_iconst (v := (1 : Int32)) X.1 X.2.1 dX3_setClosed_6 (by decide) ?_
  refine lv_isub X.1 X.2.1 dX3_setClosed_7 ?_
  refine r_SNi (As := [.int a1, .int (0 : Int32), .int ((gI M 5) - (1 : Int32))]) (rest := []) X cN_ok (kX8_isWithin h) ⟨va_cnB 3 X.2.2.2.2 gX3_setClosed_X8_isWithin_n50 rfl rfl rfl (cN_X3_50 hw.2.2.2.2.2) (X.2.2.2.2 _ (by decide +kernel)) (by decide +kernel) ⟨Nat.le_of_ble_eq_true rfl, Nat.le_of_ble_eq_true rfl⟩, X.2.2.2.2 _ (by decide +kernel), trivial⟩ hw rfl hl.1 rfl (Nat.le_of_ble_eq_true rfl) dX3_setClosed_8 (fun r_2 M_1 H locs h hw => ?_)
  obtain ⟨ht_, hf_⟩ := h
  refine lv_if_ne (tgt := 16) X.1 X.2.1 dX3_setClosed_11 (by decide) (fun c_ => ?_) (fun c_ => ?_)
  · have h := ht_ c_
    refine lv_aload_n X.1 X.2.1 dX3_setClosed_16 rfl (lv_at hl 0 rfl) ?_
    refine r_gf X inX3_setClosed_X3 hw 5 rfl rfl 4 (by decide) (X.2.2.2.2 (.fieldLink RX3 24 "TestHall$Streets" "closed" "[Z") (by decide +kernel)) rfl rfl dX3_setClosed_17 ?_
    refine lv_iload_n X.1 X.2.1 dX3_setClosed_20 rfl (lv_at hl 1 rfl) ?_
    refine lv_iload_n X.1 X.2.1 dX3_setClosed_21 rfl (lv_at hl 2 rfl) ?_
    obtain ⟨hi_, h⟩ := h
    refine r_zas (w' := cw κ η n (sA M_1 23 a1.toNatClampNeg (vp_nar .boolean a2))) X hw 32 1 rfl rfl hi_ rfl dX3_setClosed_22 (fun H locs hw => ?_)
    obtain ⟨M_3, eM_3⟩ : ∃ y : Sg, y = sA M_1 23 a1.toNatClampNeg (vp_nar .boolean a2) := ⟨_, rfl⟩
    rw [← eM_3] at hw
    have h := h M_3 eM_3
    refine lv_iconst (v := (1 : Int32)) X.1 X.2.1 dX3_setClosed_23 (by decide) ?_
    exact r_zret X hr hlk hw rfl h dX3_setClosed_24
  · have h := hf_ c_
    refine lv_iconst (v := (0 : Int32)) X.1 X.2.1 dX3_setClosed_14 (by decide) ?_
    exact r_zret X hr hlk hw rfl h dX3_setClosed_15

theorem inX3_isOpen_X3 : ∀ w ∈ wsX30, w ∈ wsX3_isOpen := fun w h => List.mem_cons_of_mem _ (List.mem_append_right _ h)
abbrev rmX3_isOpen : Room := { frames := 1, cells := 0, slots := 0, locals := 22 }
def wX3_isOpen (n : Nat) (M : Sg) (a1 : Int32) (Q : Sg → Int32 → Prop) : Prop := (wX8_isWithin n M a1 (0 : Int32) ((gI M 5) - (1 : Int32)) (fun M_1 r_2 => ((r_2 = 0 → (Q M_1 (0 : Int32))) ∧ (¬ r_2 = 0 → (vp_in a1 24 ∧ ((¬ (gA M_1 23 a1.toNatClampNeg) = 0 → (Q M_1 (0 : Int32))) ∧ ((gA M_1 23 a1.toNatClampNeg) = 0 → (Q M_1 (1 : Int32)))))))))
set_option maxHeartbeats 4000000 in
set_option maxRecDepth 100000 in
theorem kX3_isOpen {l : Launch} {D : va_G} {κ : Nat → ClassId} {η : Nat → Nat} {σ : (Nat → Nat) × (Nat → Nat)} {n : Nat} {M : Sg} {a1 : Int32} {Q : Sg → Int32 → Prop} (h : wX3_isOpen n M a1 Q) : Ki (cN σ) D (Ky κ) (cw κ η n) l yX3_isOpen wsX3_isOpen rmX3_isOpen [.ref (η 5), .int a1] M Q := by
  refine ofW_g (Qc := fun A => Qi D (Ky κ) (cw κ η n) A Q) (cc := cX3_isOpen) (maxL := 2) (ret := (some .boolean)) (by decide) rfl (Nat.le_of_ble_eq_true rfl) ?_
  intro p e s m args below meth c A ls X hr hlk hw hl
  have hl : lv_has ls 2 [(0, .ref (η 5)), (1, .int a1)] := hl
  refine lv_iload_n X.1 X.2.1 dX3_isOpen_0 rfl (lv_at hl 1 rfl) ?_
  refine lv_iconst (v := (0 : Int32)) X.1 X.2.1 dX3_isOpen_1 (by decide) ?_
  refine lv_aload_n X.1 X.2.1 dX3_isOpen_2 rfl (lv_at hl 0 rfl) ?_
  refine r_gf X inX3_isOpen_X3 hw 5 rfl rfl 9 (by decide) (X.2.2.2.2 (.fieldLink RX3 46 "TestHall$Streets" "size" "I") (by decide +kernel)) rfl rfl dX3_isOpen_3 ?_
  refine lv_iconst (v := (1 : Int32)) X.1 X.2.1 dX3_isOpen_6 (by decide) ?_
  refine lv_isub X.1 X.2.1 dX3_isOpen_7 ?_
  refine r_SNi (As := [.int a1, .int (0 : Int32), .int ((gI M 5) - (1 : Int32))]) (rest := []) X cN_ok (kX8_isWithin h) ⟨va_cnB 3 X.2.2.2.2 gX3_isOpen_X8_isWithin_n50 rfl rfl rfl (cN_X3_50 hw.2.2.2.2.2) (X.2.2.2.2 _ (by decide +kernel)) (by decide +kernel) ⟨Nat.le_of_ble_eq_true rfl, Nat.le_of_ble_eq_true rfl⟩, X.2.2.2.2 _ (by decide +kernel), trivial⟩ hw rfl hl.1 rfl (Nat.le_of_ble_eq_true rfl) dX3_isOpen_8 (fun r_2 M_1 H locs h hw => ?_)
  obtain ⟨ht_, hf_⟩ := h
  refine lv_if_eq (tgt := 27) X.1 X.2.1 dX3_isOpen_11 (by decide) (fun c_ => ?_) (fun c_ => ?_)
  · have h := ht_ c_
    refine lv_iconst (v := (0 : Int32)) X.1 X.2.1 dX3_isOpen_27 (by decide) ?_
    exact r_zret X hr hlk hw rfl h dX3_isOpen_28
  · have h := hf_ c_
    refine lv_aload_n X.1 X.2.1 dX3_isOpen_14 rfl (lv_at hl 0 rfl) ?_
    refine r_gf X inX3_isOpen_X3 hw 5 rfl rfl 4 (by decide) (X.2.2.2.2 (.fieldLink RX3 24 "TestHall$Streets" "closed" "[Z") (by decide +kernel)) rfl rfl dX3_isOpen_15 ?_
    refine lv_iload_n X.1 X.2.1 dX3_isOpen_18 rfl (lv_at hl 1 rfl) ?_
    obtain ⟨hi_, h⟩ := h
    refine r_zal X hw 32 1 rfl rfl hi_ dX3_isOpen_19 ?_
    obtain ⟨ht_, hf_⟩ := h
    refine lv_if_ne (tgt := 27) X.1 X.2.1 dX3_isOpen_20 (by decide) (fun c_ => ?_) (fun c_ => ?_)
    · have h := ht_ c_
      refine lv_iconst (v := (0 : Int32)) X.1 X.2.1 dX3_isOpen_27 (by decide) ?_
      exact r_zret X hr hlk hw rfl h dX3_isOpen_28
    · have h := hf_ c_
      refine lv_iconst (v := (1 : Int32)) X.1 X.2.1 dX3_isOpen_23 (by decide) ?_
      refine lv_goto (tgt := 28) X.1 X.2.1 dX3_isOpen_24 (by decide) ?_
      exact r_zret X hr hlk hw rfl h dX3_isOpen_28

theorem inX3_isTarget_X3 : ∀ w ∈ wsX30, w ∈ wsX3_isTarget := fun w h => List.mem_cons_of_mem _ (List.mem_append_right _ h)
abbrev rmX3_isTarget : Room := { frames := 1, cells := 0, slots := 0, locals := 22 }
def wX3_isTarget (n : Nat) (M : Sg) (a1 : Int32) (a2 : Int32) (a3 : Int32) (Q : Sg → Int32 → Prop) : Prop := (wX8_isWithin n M a2 (gI M 7) (gI M 8) (fun M_1 r_2 => ((r_2 = 0 → (Q M_1 (0 : Int32))) ∧ (¬ r_2 = 0 → (((a3 &&& (gI M_1 9)) = (gI M_1 9) → ((¬ (gI M_1 10) = (gI M_1 11) → (∀ (M_3 : Sg), M_3 = sI M_1 10 ((gI M_1 10) + (1 : Int32)) → (Q M_3 (0 : Int32)))) ∧ ((gI M_1 10) = (gI M_1 11) → (∀ (M_4 : Sg), M_4 = sI M_1 12 a1 → (∀ (M_5 : Sg), M_5 = sI M_4 13 a2 → (Q M_5 (1 : Int32))))))) ∧ (¬ (a3 &&& (gI M_1 9)) = (gI M_1 9) → (Q M_1 (0 : Int32))))))))
set_option maxHeartbeats 4000000 in
set_option maxRecDepth 100000 in
theorem kX3_isTarget {l : Launch} {D : va_G} {κ : Nat → ClassId} {η : Nat → Nat} {σ : (Nat → Nat) × (Nat → Nat)} {n : Nat} {M : Sg} {a1 : Int32} {a2 : Int32} {a3 : Int32} {Q : Sg → Int32 → Prop} (h : wX3_isTarget n M a1 a2 a3 Q) : Ki (cN σ) D (Ky κ) (cw κ η n) l yX3_isTarget wsX3_isTarget rmX3_isTarget [.ref (η 5), .int a1, .int a2, .int a3] M Q := by
  refine ofW_g (Qc := fun A => Qi D (Ky κ) (cw κ η n) A Q) (cc := cX3_isTarget) (maxL := 4) (ret := (some .boolean)) (by decide) rfl (Nat.le_of_ble_eq_true rfl) ?_
  intro p e s m args below meth c A ls X hr hlk hw hl
  have hl : lv_has ls 4 [(0, .ref (η 5)), (1, .int a1), (2, .int a2), (3, .int a3)] := hl
  refine lv_iload_n X.1 X.2.1 dX3_isTarget_0 rfl (lv_at hl 2 rfl) ?_
  refine lv_aload_n X.1 X.2.1 dX3_isTarget_1 rfl (lv_at hl 0 rfl) ?_
  refine r_gf X inX3_isTarget_X3 hw 5 rfl rfl 11 (by decide) (X.2.2.2.2 (.fieldLink RX3 58 "TestHall$Streets" "least" "I") (by decide +kernel)) rfl rfl dX3_isTarget_2 ?_
  refine lv_aload_n X.1 X.2.1 dX3_isTarget_5 rfl (lv_at hl 0 rfl) ?_
  refine r_gf X inX3_isTarget_X3 hw 5 rfl rfl 12 (by decide) (X.2.2.2.2 (.fieldLink RX3 61 "TestHall$Streets" "most" "I") (by decide +kernel)) rfl rfl dX3_isTarget_6 ?_
  refine r_SNi (As := [.int a2, .int (gI M 7), .int (gI M 8)]) (rest := []) X cN_ok (kX8_isWithin h) ⟨va_cnB 3 X.2.2.2.2 gX3_isTarget_X8_isWithin_n50 rfl rfl rfl (cN_X3_50 hw.2.2.2.2.2) (X.2.2.2.2 _ (by decide +kernel)) (by decide +kernel) ⟨Nat.le_of_ble_eq_true rfl, Nat.le_of_ble_eq_true rfl⟩, X.2.2.2.2 _ (by decide +kernel), trivial⟩ hw rfl hl.1 rfl (Nat.le_of_ble_eq_true rfl) dX3_isTarget_9 (fun r_2 M_1 H locs h hw => ?_)
  obtain ⟨ht_, hf_⟩ := h
  refine lv_if_eq (tgt := 28) X.1 X.2.1 dX3_isTarget_12 (by decide) (fun c_ => ?_) (fun c_ => ?_)
  · have h := ht_ c_
    refine lv_iconst (v := (0 : Int32)) X.1 X.2.1 dX3_isTarget_28 (by decide) ?_
    exact r_zret X hr hlk hw rfl h dX3_isTarget_29
  · have h := hf_ c_
    refine lv_iload_n X.1 X.2.1 dX3_isTarget_15 rfl (lv_at hl 3 rfl) ?_
    refine lv_aload_n X.1 X.2.1 dX3_isTarget_16 rfl (lv_at hl 0 rfl) ?_
    refine r_gf X inX3_isTarget_X3 hw 5 rfl rfl 13 (by decide) (X.2.2.2.2 (.fieldLink RX3 64 "TestHall$Streets" "wanted" "I") (by decide +kernel)) rfl rfl dX3_isTarget_17 ?_
    refine lv_iand X.1 X.2.1 dX3_isTarget_20 ?_
    refine lv_aload_n X.1 X.2.1 dX3_isTarget_21 rfl (lv_at hl 0 rfl) ?_
    refine r_gf X inX3_isTarget_X3 hw 5 rfl rfl 13 (by decide) (X.2.2.2.2 (.fieldLink RX3 64 "TestHall$Streets" "wanted" "I") (by decide +kernel)) rfl rfl dX3_isTarget_22 ?_
    obtain ⟨ht_, hf_⟩ := h
    refine lv_icmp_eq (tgt := 30) X.1 X.2.1 dX3_isTarget_25 (by decide) (fun c_ => ?_) (fun c_ => ?_)
    · have h := ht_ c_
      refine lv_aload_n X.1 X.2.1 dX3_isTarget_30 rfl (lv_at hl 0 rfl) ?_
      refine r_gf X inX3_isTarget_X3 hw 5 rfl rfl 14 (by decide) (X.2.2.2.2 (.fieldLink RX3 71 "TestHall$Streets" "found" "I") (by decide +kernel)) rfl rfl dX3_isTarget_31 ?_
      refine lv_aload_n X.1 X.2.1 dX3_isTarget_34 rfl (lv_at hl 0 rfl) ?_
      refine r_gf X inX3_isTarget_X3 hw 5 rfl rfl 15 (by decide) (X.2.2.2.2 (.fieldLink RX3 93 "TestHall$Streets" "target" "I") (by decide +kernel)) rfl rfl dX3_isTarget_35 ?_
      obtain ⟨ht_, hf_⟩ := h
      refine lv_icmp_ne (tgt := 53) X.1 X.2.1 dX3_isTarget_38 (by decide) (fun c_ => ?_) (fun c_ => ?_)
      · have h := ht_ c_
        refine lv_aload_n X.1 X.2.1 dX3_isTarget_53 rfl (lv_at hl 0 rfl) ?_
        refine lv_dup X.1 X.2.1 dX3_isTarget_54 rfl ?_
        refine r_gf X inX3_isTarget_X3 hw 5 rfl rfl 14 (by decide) (X.2.2.2.2 (.fieldLink RX3 71 "TestHall$Streets" "found" "I") (by decide +kernel)) rfl rfl dX3_isTarget_55 ?_
        refine lv_iconst (v := (1 : Int32)) X.1 X.2.1 dX3_isTarget_58 (by decide) ?_
        refine lv_iadd X.1 X.2.1 dX3_isTarget_59 ?_
        refine r_pf (ty := .int) (w' := cw κ η n (sI M_1 10 ((gI M_1 10) + (1 : Int32)))) X inX3_isTarget_X3 tyX3_ok nmX3 hw 5 rfl rfl 14 (by decide) (X.2.2.2.2 (.fieldLink RX3 71 "TestHall$Streets" "found" "I") (by decide +kernel)) rfl rfl (by decide +kernel) rfl rfl (Nat.le_of_ble_eq_true rfl) rfl dX3_isTarget_60 (fun H locs hw => ?_)
        obtain ⟨M_3, eM_3⟩ : ∃ y : Sg, y = sI M_1 10 ((gI M_1 10) + (1 : Int32)) := ⟨_, rfl⟩
        rw [← eM_3] at hw
        have h := h M_3 eM_3
        refine lv_iconst (v := (0 : Int32)) X.1 X.2.1 dX3_isTarget_63 (by decide) ?_
        exact r_zret X hr hlk hw rfl h dX3_isTarget_64
      · have h := hf_ c_
        refine lv_aload_n X.1 X.2.1 dX3_isTarget_41 rfl (lv_at hl 0 rfl) ?_
        refine lv_iload_n X.1 X.2.1 dX3_isTarget_42 rfl (lv_at hl 1 rfl) ?_
        refine r_pf (ty := .int) (w' := cw κ η n (sI M_1 12 a1)) X inX3_isTarget_X3 tyX3_ok nmX3 hw 5 rfl rfl 16 (by decide) (X.2.2.2.2 (.fieldLink RX3 84 "TestHall$Streets" "foundParts" "I") (by decide +kernel)) rfl rfl (by decide +kernel) rfl rfl (Nat.le_of_ble_eq_true rfl) rfl dX3_isTarget_43 (fun H locs hw => ?_)
        obtain ⟨M_4, eM_4⟩ : ∃ y : Sg, y = sI M_1 12 a1 := ⟨_, rfl⟩
        rw [← eM_4] at hw
        have h := h M_4 eM_4
        refine lv_aload_n X.1 X.2.1 dX3_isTarget_46 rfl (lv_at hl 0 rfl) ?_
        refine lv_iload_n X.1 X.2.1 dX3_isTarget_47 rfl (lv_at hl 2 rfl) ?_
        refine r_pf (ty := .int) (w' := cw κ η n (sI M_4 13 a2)) X inX3_isTarget_X3 tyX3_ok nmX3 hw 5 rfl rfl 17 (by decide) (X.2.2.2.2 (.fieldLink RX3 90 "TestHall$Streets" "foundMinutes" "I") (by decide +kernel)) rfl rfl (by decide +kernel) rfl rfl (Nat.le_of_ble_eq_true rfl) rfl dX3_isTarget_48 (fun H locs hw => ?_)
        obtain ⟨M_5, eM_5⟩ : ∃ y : Sg, y = sI M_4 13 a2 := ⟨_, rfl⟩
        rw [← eM_5] at hw
        have h := h M_5 eM_5
        refine lv_iconst (v := (1 : Int32)) X.1 X.2.1 dX3_isTarget_51 (by decide) ?_
        exact r_zret X hr hlk hw rfl h dX3_isTarget_52
    · have h := hf_ c_
      refine lv_iconst (v := (0 : Int32)) X.1 X.2.1 dX3_isTarget_28 (by decide) ?_
      exact r_zret X hr hlk hw rfl h dX3_isTarget_29

theorem inX3_walk_X3 : ∀ w ∈ wsX30, w ∈ wsX3_walk := fun w h => List.mem_cons_of_mem _ (List.mem_append_right _ h)
def vX3_walk_174 (n : Nat) (W_ : Sg → Int32 → Int32 → Int32 → Int32 → Int32 → (Sg → Int32 → Prop) → Prop) (K21 : Sg → Int32 → Int32 → Int32 → Int32 → Int32 → Int32 → Prop) (Q : Sg → Int32 → Prop) (M : Sg) (x1 : Int32) (x2 : Int32) (x3 : Int32) (x4 : Int32) (x5 : Int32) (x6 : Int32) : Prop := (∀ (x_1 : Int32), x_1 = x6 + (1 : Int32) → (K21 M x1 x2 x3 x4 x5 x_1))
set_option maxHeartbeats 4000000 in
set_option maxRecDepth 100000 in
theorem bX3_walk_174 {p : Program} {l : Launch} {e : Env} {s : State} {m : MethodId} {args : Array Value} {below : List Frame} {meth : Method} {c : Code} {D : va_G} {κ : Nat → ClassId} {η : Nat → Nat} {σ : (Nat → Nat) × (Nat → Nat)} {A : Nat → Prop} {n : Nat} {Q : Sg → Int32 → Prop} {d_ : Nat} {W_ : Sg → Int32 → Int32 → Int32 → Int32 → Int32 → (Sg → Int32 → Prop) → Prop} (IH_ : ∀ {M : Sg} {b0 b1 b2 b3 b4 : Int32} {Q : Sg → Int32 → Prop}, W_ M b0 b1 b2 b3 b4 Q → Ki (cN σ) D (Ky κ) (cw κ η n) l yX3_walk wsX3_walk (rmX3_walk d_) [.ref (η 5), .int b0, .int b1, .int b2, .int b3, .int b4] M Q) {K21 : Sg → Int32 → Int32 → Int32 → Int32 → Int32 → Int32 → Prop} (X : CallFix p m c cX3_walk 12 s args wsX3_walk RX3) (hr : meth.sig.returnType = (some .boolean)) (hlk : meth.locks = false) (hK21 : ∀ (M : Sg) (x1 : Int32) (x2 : Int32) (x3 : Int32) (x4 : Int32) (x5 : Int32) (x6 : Int32) (H : Heap) (locs : List Loc) (ls : Array Slot), K21 M x1 x2 x3 x4 x5 x6 → Wd (cN σ) D (Ky κ) A s (cw κ η n M) H locs → lv_has ls 12 [(0, .ref (η 5)), (1, .int x1), (2, .int x2), (3, .int x3), (4, .int x4), (5, .int x5), (6, .int x6)] → W p l e (rmX3_walk (d_ + 1)) s m args below meth c H locs 0 0 (MQ below (Qi D (Ky κ) (cw κ η n) A Q) args s 0 0 A) (F0 m 21 ls [])) : ∀ (M : Sg) (x1 : Int32) (x2 : Int32) (x3 : Int32) (x4 : Int32) (x5 : Int32) (x6 : Int32) (H : Heap) (locs : List Loc) (ls : Array Slot), vX3_walk_174 n W_ K21 Q M x1 x2 x3 x4 x5 x6 → Wd (cN σ) D (Ky κ) A s (cw κ η n M) H locs → lv_has ls 12 [(0, .ref (η 5)), (1, .int x1), (2, .int x2), (3, .int x3), (4, .int x4), (5, .int x5), (6, .int x6)] → W p l e (rmX3_walk (d_ + 1)) s m args below meth c H locs 0 0 (MQ below (Qi D (Ky κ) (cw κ η n) A Q) args s 0 0 A) (F0 m 174 ls []) := by
  intro M x1 x2 x3 x4 x5 x6 H locs ls h hw hl
  obtain ⟨x_1, ex_1⟩ : ∃ y : Int32, y = x6 + (1 : Int32) := ⟨_, rfl⟩
  have h := h x_1 ex_1
  refine lv_iinc (v := x_1) (lv' := [(6, .int x_1), (0, .ref (η 5)), (1, .int x1), (2, .int x2), (3, .int x3), (4, .int x4), (5, .int x5)]) X.1 X.2.1 dX3_walk_174 hl (k := 6) rfl (by rw [ex_1]; rfl) (by decide) rfl (fun ls hl => ?_)
  refine lv_goto (tgt := 21) X.1 X.2.1 dX3_walk_177 (by decide) ?_
  exact hK21 M x1 x2 x3 x4 x5 x_1 _ _ _ h hw (lv_sub hl [1, 2, 3, 4, 5, 6, 0] rfl)
def vX3_walk_165 (n : Nat) (W_ : Sg → Int32 → Int32 → Int32 → Int32 → Int32 → (Sg → Int32 → Prop) → Prop) (K21 : Sg → Int32 → Int32 → Int32 → Int32 → Int32 → Int32 → Prop) (Q : Sg → Int32 → Prop) (M : Sg) (x1 : Int32) (x2 : Int32) (x3 : Int32) (x4 : Int32) (x5 : Int32) (x6 : Int32) (s0 : Int32) : Prop := ((s0 = 0 → (vX3_walk_174 n W_ K21 Q M x1 x2 x3 x4 x5 x6)) ∧ (¬ s0 = 0 → (Q M (1 : Int32))))
set_option maxHeartbeats 4000000 in
set_option maxRecDepth 100000 in
theorem bX3_walk_165 {p : Program} {l : Launch} {e : Env} {s : State} {m : MethodId} {args : Array Value} {below : List Frame} {meth : Method} {c : Code} {D : va_G} {κ : Nat → ClassId} {η : Nat → Nat} {σ : (Nat → Nat) × (Nat → Nat)} {A : Nat → Prop} {n : Nat} {Q : Sg → Int32 → Prop} {d_ : Nat} {W_ : Sg → Int32 → Int32 → Int32 → Int32 → Int32 → (Sg → Int32 → Prop) → Prop} (IH_ : ∀ {M : Sg} {b0 b1 b2 b3 b4 : Int32} {Q : Sg → Int32 → Prop}, W_ M b0 b1 b2 b3 b4 Q → Ki (cN σ) D (Ky κ) (cw κ η n) l yX3_walk wsX3_walk (rmX3_walk d_) [.ref (η 5), .int b0, .int b1, .int b2, .int b3, .int b4] M Q) {K21 : Sg → Int32 → Int32 → Int32 → Int32 → Int32 → Int32 → Prop} (X : CallFix p m c cX3_walk 12 s args wsX3_walk RX3) (hr : meth.sig.returnType = (some .boolean)) (hlk : meth.locks = false) (hK21 : ∀ (M : Sg) (x1 : Int32) (x2 : Int32) (x3 : Int32) (x4 : Int32) (x5 : Int32) (x6 : Int32) (H : Heap) (locs : List Loc) (ls : Array Slot), K21 M x1 x2 x3 x4 x5 x6 → Wd (cN σ) D (Ky κ) A s (cw κ η n M) H locs → lv_has ls 12 [(0, .ref (η 5)), (1, .int x1), (2, .int x2), (3, .int x3), (4, .int x4), (5, .int x5), (6, .int x6)] → W p l e (rmX3_walk (d_ + 1)) s m args below meth c H locs 0 0 (MQ below (Qi D (Ky κ) (cw κ η n) A Q) args s 0 0 A) (F0 m 21 ls [])) : ∀ (M : Sg) (x1 : Int32) (x2 : Int32) (x3 : Int32) (x4 : Int32) (x5 : Int32) (x6 : Int32) (s0 : Int32) (H : Heap) (locs : List Loc) (ls : Array Slot), vX3_walk_165 n W_ K21 Q M x1 x2 x3 x4 x5 x6 s0 → Wd (cN σ) D (Ky κ) A s (cw κ η n M) H locs → lv_has ls 12 [(0, .ref (η 5)), (1, .int x1), (2, .int x2), (3, .int x3), (4, .int x4), (5, .int x5), (6, .int x6)] → W p l e (rmX3_walk (d_ + 1)) s m args below meth c H locs 0 0 (MQ below (Qi D (Ky κ) (cw κ η n) A Q) args s 0 0 A) (F0 m 165 ls [.int s0]) := by
  intro M x1 x2 x3 x4 x5 x6 s0 H locs ls h hw hl
  refine lv_istore (lv' := [(11, .int s0), (0, .ref (η 5)), (1, .int x1), (2, .int x2), (3, .int x3), (4, .int x4), (5, .int x5), (6, .int x6)]) X.1 X.2.1 dX3_walk_165 hl (by decide) rfl (fun ls hl => ?_)
  refine lv_iload X.1 X.2.1 dX3_walk_167 (lv_at hl 0 rfl) ?_
  obtain ⟨ht_, hf_⟩ := h
  refine lv_if_eq (tgt := 174) X.1 X.2.1 dX3_walk_169 (by decide) (fun c_ => ?_) (fun c_ => ?_)
  · have h := ht_ c_
    exact bX3_walk_174 IH_ X hr hlk hK21 M x1 x2 x3 x4 x5 x6 _ _ _ h hw (lv_sub hl [1, 2, 3, 4, 5, 6, 7] rfl)
  · have h := hf_ c_
    refine lv_iconst (v := (1 : Int32)) X.1 X.2.1 dX3_walk_172 (by decide) ?_
    exact r_zret X hr hlk hw rfl h dX3_walk_173
def vX3_walk_101 (n : Nat) (W_ : Sg → Int32 → Int32 → Int32 → Int32 → Int32 → (Sg → Int32 → Prop) → Prop) (K21 : Sg → Int32 → Int32 → Int32 → Int32 → Int32 → Int32 → Prop) (Q : Sg → Int32 → Prop) (M : Sg) (x1 : Int32) (x2 : Int32) (x3 : Int32) (x4 : Int32) (x5 : Int32) (x6 : Int32) (x7 : Int32) (s0 : Int32) : Prop := (vp_in x7 24 ∧ (∀ (x_1 : Int32), x_1 = (x3 + (gA M 21 x7.toNatClampNeg)) → (vp_in x7 24 ∧ (∀ (x_2 : Int32), x_2 = (x4 ||| (gA M 22 x7.toNatClampNeg)) → ((¬ s0 = 0 → (W_ M s0 (x2 + (1 : Int32)) x_1 x_2 (x5 ||| ((1 : Int32) <<< (x7 &&& 31))) (fun M_3 r_4 => (vX3_walk_165 n W_ K21 Q M_3 x1 x2 x3 x4 x5 x6 r_4)))) ∧ (s0 = 0 → (wX3_isTarget n M (x2 + (1 : Int32)) x_1 x_2 (fun M_5 r_6 => (vX3_walk_165 n W_ K21 Q M_5 x1 x2 x3 x4 x5 x6 r_6)))))))))
set_option maxHeartbeats 4000000 in
set_option maxRecDepth 100000 in
theorem bX3_walk_101 {p : Program} {l : Launch} {e : Env} {s : State} {m : MethodId} {args : Array Value} {below : List Frame} {meth : Method} {c : Code} {D : va_G} {κ : Nat → ClassId} {η : Nat → Nat} {σ : (Nat → Nat) × (Nat → Nat)} {A : Nat → Prop} {n : Nat} {Q : Sg → Int32 → Prop} {d_ : Nat} {W_ : Sg → Int32 → Int32 → Int32 → Int32 → Int32 → (Sg → Int32 → Prop) → Prop} (IH_ : ∀ {M : Sg} {b0 b1 b2 b3 b4 : Int32} {Q : Sg → Int32 → Prop}, W_ M b0 b1 b2 b3 b4 Q → Ki (cN σ) D (Ky κ) (cw κ η n) l yX3_walk wsX3_walk (rmX3_walk d_) [.ref (η 5), .int b0, .int b1, .int b2, .int b3, .int b4] M Q) {K21 : Sg → Int32 → Int32 → Int32 → Int32 → Int32 → Int32 → Prop} (X : CallFix p m c cX3_walk 12 s args wsX3_walk RX3) (hr : meth.sig.returnType = (some .boolean)) (hlk : meth.locks = false) (hK21 : ∀ (M : Sg) (x1 : Int32) (x2 : Int32) (x3 : Int32) (x4 : Int32) (x5 : Int32) (x6 : Int32) (H : Heap) (locs : List Loc) (ls : Array Slot), K21 M x1 x2 x3 x4 x5 x6 → Wd (cN σ) D (Ky κ) A s (cw κ η n M) H locs → lv_has ls 12 [(0, .ref (η 5)), (1, .int x1), (2, .int x2), (3, .int x3), (4, .int x4), (5, .int x5), (6, .int x6)] → W p l e (rmX3_walk (d_ + 1)) s m args below meth c H locs 0 0 (MQ below (Qi D (Ky κ) (cw κ η n) A Q) args s 0 0 A) (F0 m 21 ls [])) : ∀ (M : Sg) (x1 : Int32) (x2 : Int32) (x3 : Int32) (x4 : Int32) (x5 : Int32) (x6 : Int32) (x7 : Int32) (s0 : Int32) (H : Heap) (locs : List Loc) (ls : Array Slot), vX3_walk_101 n W_ K21 Q M x1 x2 x3 x4 x5 x6 x7 s0 → Wd (cN σ) D (Ky κ) A s (cw κ η n M) H locs → lv_has ls 12 [(0, .ref (η 5)), (1, .int x1), (2, .int x2), (3, .int x3), (4, .int x4), (5, .int x5), (6, .int x6), (7, .int x7)] → W p l e (rmX3_walk (d_ + 1)) s m args below meth c H locs 0 0 (MQ below (Qi D (Ky κ) (cw κ η n) A Q) args s 0 0 A) (F0 m 101 ls [.int s0]) := by
  intro M x1 x2 x3 x4 x5 x6 x7 s0 H locs ls h hw hl
  refine lv_istore (lv' := [(8, .int s0), (0, .ref (η 5)), (1, .int x1), (2, .int x2), (3, .int x3), (4, .int x4), (5, .int x5), (6, .int x6), (7, .int x7)]) X.1 X.2.1 dX3_walk_101 hl (by decide) rfl (fun ls hl => ?_)
  refine lv_iload_n X.1 X.2.1 dX3_walk_103 rfl (lv_at hl 4 rfl) ?_
  refine lv_aload_n X.1 X.2.1 dX3_walk_104 rfl (lv_at hl 1 rfl) ?_
  refine r_gf X inX3_walk_X3 hw 5 rfl rfl 2 (by decide) (X.2.2.2.2 (.fieldLink RX3 18 "TestHall$Streets" "minutesOf" "[I") (by decide +kernel)) rfl rfl dX3_walk_105 ?_
  refine lv_iload X.1 X.2.1 dX3_walk_108 (lv_at hl 8 rfl) ?_
  obtain ⟨hi_, h⟩ := h
  refine r_ial X hw 30 0 rfl rfl hi_ dX3_walk_110 ?_
  refine lv_iadd X.1 X.2.1 dX3_walk_111 ?_
  refine lv_topi (fun x_1 ex_1 => ?_)
  have h := h x_1 ex_1
  refine lv_istore (lv' := [(9, .int x_1), (8, .int s0), (0, .ref (η 5)), (1, .int x1), (2, .int x2), (3, .int x3), (4, .int x4), (5, .int x5), (6, .int x6), (7, .int x7)]) X.1 X.2.1 dX3_walk_112 hl (by decide) rfl (fun ls hl => ?_)
  refine lv_iload X.1 X.2.1 dX3_walk_114 (lv_at hl 6 rfl) ?_
  refine lv_aload_n X.1 X.2.1 dX3_walk_116 rfl (lv_at hl 2 rfl) ?_
  refine r_gf X inX3_walk_X3 hw 5 rfl rfl 3 (by decide) (X.2.2.2.2 (.fieldLink RX3 21 "TestHall$Streets" "marksOf" "[I") (by decide +kernel)) rfl rfl dX3_walk_117 ?_
  refine lv_iload X.1 X.2.1 dX3_walk_120 (lv_at hl 9 rfl) ?_
  obtain ⟨hi_, h⟩ := h
  refine r_ial X hw 31 0 rfl rfl hi_ dX3_walk_122 ?_
  refine lv_ior X.1 X.2.1 dX3_walk_123 ?_
  refine lv_topi (fun x_2 ex_2 => ?_)
  have h := h x_2 ex_2
  refine lv_istore (lv' := [(10, .int x_2), (9, .int x_1), (8, .int s0), (0, .ref (η 5)), (1, .int x1), (2, .int x2), (3, .int x3), (4, .int x4), (5, .int x5), (6, .int x6), (7, .int x7)]) X.1 X.2.1 dX3_walk_124 hl (by decide) rfl (fun ls hl => ?_)
  refine lv_iload X.1 X.2.1 dX3_walk_126 (lv_at hl 2 rfl) ?_
  obtain ⟨ht_, hf_⟩ := h
  refine lv_if_ne (tgt := 145) X.1 X.2.1 dX3_walk_128 (by decide) (fun c_ => ?_) (fun c_ => ?_)
  · have h := ht_ c_
    refine lv_aload_n X.1 X.2.1 dX3_walk_145 rfl (lv_at hl 3 rfl) ?_
    refine lv_iload X.1 X.2.1 dX3_walk_146 (lv_at hl 2 rfl) ?_
    refine lv_iload_n X.1 X.2.1 dX3_walk_148 rfl (lv_at hl 5 rfl) ?_
    refine lv_iconst (v := (1 : Int32)) X.1 X.2.1 dX3_walk_149 (by decide) ?_
    refine lv_iadd X.1 X.2.1 dX3_walk_150 ?_
    refine lv_iload X.1 X.2.1 dX3_walk_151 (lv_at hl 1 rfl) ?_
    refine lv_iload X.1 X.2.1 dX3_walk_153 (lv_at hl 0 rfl) ?_
    refine lv_iload X.1 X.2.1 dX3_walk_155 (lv_at hl 8 rfl) ?_
    refine lv_iconst (v := (1 : Int32)) X.1 X.2.1 dX3_walk_157 (by decide) ?_
    refine lv_iload X.1 X.2.1 dX3_walk_158 (lv_at hl 10 rfl) ?_
    refine lv_ishl X.1 X.2.1 dX3_walk_160 ?_
    refine lv_ior X.1 X.2.1 dX3_walk_161 ?_
    refine r_Vi (As := [.int s0, .int (x2 + (1 : Int32)), .int x_1, .int x_2, .int (x5 ||| ((1 : Int32) <<< (x7 &&& 31)))]) (rest := []) X cN_ok (IH_ h) (cwV 5 X.2.2.2.2 gX3_walk_X3_walk rfl rfl rfl (by decide +kernel) ⟨by simp only [rmX3_walk]; omega, by simp only [rmX3_walk]; omega⟩) hw 5 3 rfl rfl rfl hl.1 rfl (Nat.le_of_ble_eq_true rfl) dX3_walk_162 (fun r_4 M_3 H locs h hw => ?_)
    exact bX3_walk_165 IH_ X hr hlk hK21 M_3 x1 x2 x3 x4 x5 x6 r_4 _ _ _ h hw (lv_sub hl [3, 4, 5, 6, 7, 8, 9] rfl)
  · have h := hf_ c_
    refine lv_aload_n X.1 X.2.1 dX3_walk_131 rfl (lv_at hl 3 rfl) ?_
    refine lv_iload_n X.1 X.2.1 dX3_walk_132 rfl (lv_at hl 5 rfl) ?_
    refine lv_iconst (v := (1 : Int32)) X.1 X.2.1 dX3_walk_133 (by decide) ?_
    refine lv_iadd X.1 X.2.1 dX3_walk_134 ?_
    refine lv_iload X.1 X.2.1 dX3_walk_135 (lv_at hl 1 rfl) ?_
    refine lv_iload X.1 X.2.1 dX3_walk_137 (lv_at hl 0 rfl) ?_
    refine r_Vi (As := [.int (x2 + (1 : Int32)), .int x_1, .int x_2]) (rest := []) X cN_ok (kX3_isTarget h) (cwV 3 X.2.2.2.2 gX3_walk_X3_isTarget rfl rfl rfl (by decide +kernel) ⟨by simp only [rmX3_walk, rmX3_isTarget]; omega, by simp only [rmX3_walk, rmX3_isTarget]; omega⟩) hw 5 3 rfl rfl rfl hl.1 rfl (Nat.le_of_ble_eq_true rfl) dX3_walk_139 (fun r_6 M_5 H locs h hw => ?_)
    refine lv_goto (tgt := 165) X.1 X.2.1 dX3_walk_142 (by decide) ?_
    exact bX3_walk_165 IH_ X hr hlk hK21 M_5 x1 x2 x3 x4 x5 x6 r_6 _ _ _ h hw (lv_sub hl [3, 4, 5, 6, 7, 8, 9] rfl)
def vX3_walk_21 (n : Nat) (W_ : Sg → Int32 → Int32 → Int32 → Int32 → Int32 → (Sg → Int32 → Prop) → Prop) (Q : Sg → Int32 → Prop) : Nat → Sg → Int32 → Int32 → Int32 → Int32 → Int32 → Int32 → Prop
  | 0, _, _, _, _, _, _, _ => False
  | f21_ + 1, M, x1, x2, x3, x4, x5, x6 => (vp_in x1 12 ∧ (((gA M 24 x1.toNatClampNeg) ≤ x6 → (Q M (0 : Int32))) ∧ (¬ (gA M 24 x1.toNatClampNeg) ≤ x6 → (vp_in x1 12 ∧ ((vp_in x6 4 ∧ (x1.toNatClampNeg) < 12) ∧ (∀ (x_1 : Int32), x_1 = (gA M (30 + (x1.toNatClampNeg)) x6.toNatClampNeg) → (wX3_isOpen n M x_1 (fun M_2 r_3 => ((r_3 = 0 → (vX3_walk_174 n W_ (vX3_walk_21 n W_ Q f21_) Q M_2 x1 x2 x3 x4 x5 x6)) ∧ (¬ r_3 = 0 → ((((x5 >>> (x_1 &&& 31)) &&& (1 : Int32)) = 0 → (vp_in x2 8 ∧ (∀ (M_4 : Sg), M_4 = sA M_2 25 x2.toNatClampNeg x_1 → (vp_in x_1 24 ∧ ((¬ (gA M_4 19 x_1.toNatClampNeg) = x1 → (vp_in x_1 24 ∧ (vX3_walk_101 n W_ (vX3_walk_21 n W_ Q f21_) Q M_4 x1 x2 x3 x4 x5 x6 x_1 (gA M_4 19 x_1.toNatClampNeg)))) ∧ ((gA M_4 19 x_1.toNatClampNeg) = x1 → (vp_in x_1 24 ∧ (vX3_walk_101 n W_ (vX3_walk_21 n W_ Q f21_) Q M_4 x1 x2 x3 x4 x5 x6 x_1 (gA M_4 20 x_1.toNatClampNeg))))))))) ∧ (¬ ((x5 >>> (x_1 &&& 31)) &&& (1 : Int32)) = 0 → (vX3_walk_174 n W_ (vX3_walk_21 n W_ Q f21_) Q M_2 x1 x2 x3 x4 x5 x6)))))))))))))
set_option maxHeartbeats 4000000 in
set_option maxRecDepth 100000 in
theorem bX3_walk_21 {p : Program} {l : Launch} {e : Env} {s : State} {m : MethodId} {args : Array Value} {below : List Frame} {meth : Method} {c : Code} {D : va_G} {κ : Nat → ClassId} {η : Nat → Nat} {σ : (Nat → Nat) × (Nat → Nat)} {A : Nat → Prop} {n : Nat} {Q : Sg → Int32 → Prop} {d_ : Nat} {W_ : Sg → Int32 → Int32 → Int32 → Int32 → Int32 → (Sg → Int32 → Prop) → Prop} (IH_ : ∀ {M : Sg} {b0 b1 b2 b3 b4 : Int32} {Q : Sg → Int32 → Prop}, W_ M b0 b1 b2 b3 b4 Q → Ki (cN σ) D (Ky κ) (cw κ η n) l yX3_walk wsX3_walk (rmX3_walk d_) [.ref (η 5), .int b0, .int b1, .int b2, .int b3, .int b4] M Q) (X : CallFix p m c cX3_walk 12 s args wsX3_walk RX3) (hr : meth.sig.returnType = (some .boolean)) (hlk : meth.locks = false) : ∀ (f_ : Nat) (M : Sg) (x1 : Int32) (x2 : Int32) (x3 : Int32) (x4 : Int32) (x5 : Int32) (x6 : Int32) (H : Heap) (locs : List Loc) (ls : Array Slot), vX3_walk_21 n W_ Q f_ M x1 x2 x3 x4 x5 x6 → Wd (cN σ) D (Ky κ) A s (cw κ η n M) H locs → lv_has ls 12 [(0, .ref (η 5)), (1, .int x1), (2, .int x2), (3, .int x3), (4, .int x4), (5, .int x5), (6, .int x6)] → W p l e (rmX3_walk (d_ + 1)) s m args below meth c H locs 0 0 (MQ below (Qi D (Ky κ) (cw κ η n) A Q) args s 0 0 A) (F0 m 21 ls []) := by
  intro f_
  induction f_ with
  | zero => intro M x1 x2 x3 x4 x5 x6 H locs ls h; exact h.elim
  | succ f_ hK21 =>
    intro M x1 x2 x3 x4 x5 x6 H locs ls h hw hl
    refine lv_iload X.1 X.2.1 dX3_walk_21 (lv_at hl 6 rfl) ?_
    refine lv_aload_n X.1 X.2.1 dX3_walk_23 rfl (lv_at hl 0 rfl) ?_
    refine r_gf X inX3_walk_X3 hw 5 rfl rfl 6 (by decide) (X.2.2.2.2 (.fieldLink RX3 33 "TestHall$Streets" "sizeAt" "[I") (by decide +kernel)) rfl rfl dX3_walk_24 ?_
    refine lv_iload_n X.1 X.2.1 dX3_walk_27 rfl (lv_at hl 1 rfl) ?_
    obtain ⟨hi_, h⟩ := h
    refine r_ial X hw 33 0 rfl rfl hi_ dX3_walk_28 ?_
    obtain ⟨ht_, hf_⟩ := h
    refine lv_icmp_ge (tgt := 180) X.1 X.2.1 dX3_walk_29 (by decide) (fun c_ => ?_) (fun c_ => ?_)
    · have h := ht_ c_
      refine lv_iconst (v := (0 : Int32)) X.1 X.2.1 dX3_walk_180 (by decide) ?_
      exact r_zret X hr hlk hw rfl h dX3_walk_181
    · have h := hf_ c_
      refine lv_aload_n X.1 X.2.1 dX3_walk_32 rfl (lv_at hl 0 rfl) ?_
      refine r_gf X inX3_walk_X3 hw 5 rfl rfl 5 (by decide) (X.2.2.2.2 (.fieldLink RX3 30 "TestHall$Streets" "streetsAt" "[[I") (by decide +kernel)) rfl rfl dX3_walk_33 ?_
      refine lv_iload_n X.1 X.2.1 dX3_walk_36 rfl (lv_at hl 1 rfl) ?_
      obtain ⟨hi_, h⟩ := h
      refine r_row X hw hi_ dX3_walk_37 ?_
      refine lv_iload X.1 X.2.1 dX3_walk_38 (lv_at hl 6 rfl) ?_
      obtain ⟨hi_, h⟩ := h
      refine r_ial X hw (37 + (x1.toNatClampNeg)) 0 (cw_row hi_.2) rfl hi_.1 dX3_walk_40 ?_
      refine lv_topi (fun x_1 ex_1 => ?_)
      have h := h x_1 ex_1
      refine lv_istore (lv' := [(7, .int x_1), (0, .ref (η 5)), (1, .int x1), (2, .int x2), (3, .int x3), (4, .int x4), (5, .int x5), (6, .int x6)]) X.1 X.2.1 dX3_walk_41 hl (by decide) rfl (fun ls hl => ?_)
      refine lv_aload_n X.1 X.2.1 dX3_walk_43 rfl (lv_at hl 1 rfl) ?_
      refine lv_iload X.1 X.2.1 dX3_walk_44 (lv_at hl 0 rfl) ?_
      refine r_Vi (As := [.int x_1]) (rest := []) X cN_ok (kX3_isOpen h) (cwV 1 X.2.2.2.2 gX3_walk_X3_isOpen rfl rfl rfl (by decide +kernel) ⟨by simp only [rmX3_walk, rmX3_isOpen]; omega, by simp only [rmX3_walk, rmX3_isOpen]; omega⟩) hw 5 3 rfl rfl rfl hl.1 rfl (Nat.le_of_ble_eq_true rfl) dX3_walk_46 (fun r_3 M_2 H locs h hw => ?_)
      obtain ⟨ht_, hf_⟩ := h
      refine lv_if_eq (tgt := 174) X.1 X.2.1 dX3_walk_49 (by decide) (fun c_ => ?_) (fun c_ => ?_)
      · have h := ht_ c_
        exact bX3_walk_174 IH_ X hr hlk hK21 M_2 x1 x2 x3 x4 x5 x6 _ _ _ h hw (lv_sub hl [1, 2, 3, 4, 5, 6, 7] rfl)
      · have h := hf_ c_
        refine lv_iload X.1 X.2.1 dX3_walk_52 (lv_at hl 6 rfl) ?_
        refine lv_iload X.1 X.2.1 dX3_walk_54 (lv_at hl 0 rfl) ?_
        refine lv_ishr X.1 X.2.1 dX3_walk_56 ?_
        refine lv_iconst (v := (1 : Int32)) X.1 X.2.1 dX3_walk_57 (by decide) ?_
        refine lv_iand X.1 X.2.1 dX3_walk_58 ?_
        obtain ⟨ht_, hf_⟩ := h
        refine lv_if_eq (tgt := 65) X.1 X.2.1 dX3_walk_59 (by decide) (fun c_ => ?_) (fun c_ => ?_)
        · have h := ht_ c_
          refine lv_aload_n X.1 X.2.1 dX3_walk_65 rfl (lv_at hl 1 rfl) ?_
          refine r_gf X inX3_walk_X3 hw 5 rfl rfl 7 (by decide) (X.2.2.2.2 (.fieldLink RX3 36 "TestHall$Streets" "path" "[I") (by decide +kernel)) rfl rfl dX3_walk_66 ?_
          refine lv_iload_n X.1 X.2.1 dX3_walk_69 rfl (lv_at hl 3 rfl) ?_
          refine lv_iload X.1 X.2.1 dX3_walk_70 (lv_at hl 0 rfl) ?_
          obtain ⟨hi_, h⟩ := h
          refine r_ias (w' := cw κ η n (sA M_2 25 x2.toNatClampNeg x_1)) X hw 34 0 rfl rfl hi_ rfl dX3_walk_72 (fun H locs hw => ?_)
          obtain ⟨M_4, eM_4⟩ : ∃ y : Sg, y = sA M_2 25 x2.toNatClampNeg x_1 := ⟨_, rfl⟩
          rw [← eM_4] at hw
          have h := h M_4 eM_4
          refine lv_aload_n X.1 X.2.1 dX3_walk_73 rfl (lv_at hl 1 rfl) ?_
          refine r_gf X inX3_walk_X3 hw 5 rfl rfl 0 (by decide) (X.2.2.2.2 (.fieldLink RX3 11 "TestHall$Streets" "ends" "[I") (by decide +kernel)) rfl rfl dX3_walk_74 ?_
          refine lv_iload X.1 X.2.1 dX3_walk_77 (lv_at hl 0 rfl) ?_
          obtain ⟨hi_, h⟩ := h
          refine r_ial X hw 28 0 rfl rfl hi_ dX3_walk_79 ?_
          refine lv_iload_n X.1 X.2.1 dX3_walk_80 rfl (lv_at hl 2 rfl) ?_
          obtain ⟨ht_, hf_⟩ := h
          refine lv_icmp_ne (tgt := 94) X.1 X.2.1 dX3_walk_81 (by decide) (fun c_ => ?_) (fun c_ => ?_)
          · have h := ht_ c_
            refine lv_aload_n X.1 X.2.1 dX3_walk_94 rfl (lv_at hl 1 rfl) ?_
            refine r_gf X inX3_walk_X3 hw 5 rfl rfl 0 (by decide) (X.2.2.2.2 (.fieldLink RX3 11 "TestHall$Streets" "ends" "[I") (by decide +kernel)) rfl rfl dX3_walk_95 ?_
            refine lv_iload X.1 X.2.1 dX3_walk_98 (lv_at hl 0 rfl) ?_
            obtain ⟨hi_, h⟩ := h
            refine r_ial X hw 28 0 rfl rfl hi_ dX3_walk_100 ?_
            exact bX3_walk_101 IH_ X hr hlk hK21 M_4 x1 x2 x3 x4 x5 x6 x_1 (gA M_4 19 x_1.toNatClampNeg) _ _ _ h hw (lv_sub hl [1, 2, 3, 4, 5, 6, 7, 0] rfl)
          · have h := hf_ c_
            refine lv_aload_n X.1 X.2.1 dX3_walk_84 rfl (lv_at hl 1 rfl) ?_
            refine r_gf X inX3_walk_X3 hw 5 rfl rfl 1 (by decide) (X.2.2.2.2 (.fieldLink RX3 15 "TestHall$Streets" "otherEnds" "[I") (by decide +kernel)) rfl rfl dX3_walk_85 ?_
            refine lv_iload X.1 X.2.1 dX3_walk_88 (lv_at hl 0 rfl) ?_
            obtain ⟨hi_, h⟩ := h
            refine r_ial X hw 29 0 rfl rfl hi_ dX3_walk_90 ?_
            refine lv_goto (tgt := 101) X.1 X.2.1 dX3_walk_91 (by decide) ?_
            exact bX3_walk_101 IH_ X hr hlk hK21 M_4 x1 x2 x3 x4 x5 x6 x_1 (gA M_4 20 x_1.toNatClampNeg) _ _ _ h hw (lv_sub hl [1, 2, 3, 4, 5, 6, 7, 0] rfl)
        · have h := hf_ c_
          refine lv_goto (tgt := 174) X.1 X.2.1 dX3_walk_62 (by decide) ?_
          exact bX3_walk_174 IH_ X hr hlk hK21 M_2 x1 x2 x3 x4 x5 x6 _ _ _ h hw (lv_sub hl [1, 2, 3, 4, 5, 6, 7] rfl)
def wX3_walk_b (n : Nat) (W_ : Sg → Int32 → Int32 → Int32 → Int32 → Int32 → (Sg → Int32 → Prop) → Prop) (M : Sg) (a1 : Int32) (a2 : Int32) (a3 : Int32) (a4 : Int32) (a5 : Int32) (Q : Sg → Int32 → Prop) : Prop := (((8 : Int32) ≤ a2 → (Q M (0 : Int32))) ∧ (¬ (8 : Int32) ≤ a2 → (wX8_isWithin n M a1 (0 : Int32) (11 : Int32) (fun M_1 r_2 => ((¬ r_2 = 0 → (∃ g21_ : Nat, vX3_walk_21 n W_ Q g21_ M_1 a1 a2 a3 a4 a5 (0 : Int32))) ∧ (r_2 = 0 → (Q M_1 (0 : Int32))))))))
set_option maxHeartbeats 4000000 in
set_option maxRecDepth 100000 in
theorem kX3_walk_b {l : Launch} {D : va_G} {κ : Nat → ClassId} {η : Nat → Nat} {σ : (Nat → Nat) × (Nat → Nat)} {n : Nat} {d_ : Nat} {W_ : Sg → Int32 → Int32 → Int32 → Int32 → Int32 → (Sg → Int32 → Prop) → Prop} (IH_ : ∀ {M : Sg} {b0 b1 b2 b3 b4 : Int32} {Q : Sg → Int32 → Prop}, W_ M b0 b1 b2 b3 b4 Q → Ki (cN σ) D (Ky κ) (cw κ η n) l yX3_walk wsX3_walk (rmX3_walk d_) [.ref (η 5), .int b0, .int b1, .int b2, .int b3, .int b4] M Q) {M : Sg} {a1 : Int32} {a2 : Int32} {a3 : Int32} {a4 : Int32} {a5 : Int32} {Q : Sg → Int32 → Prop} (h : wX3_walk_b n W_ M a1 a2 a3 a4 a5 Q) : Ki (cN σ) D (Ky κ) (cw κ η n) l yX3_walk wsX3_walk (rmX3_walk (d_ + 1)) [.ref (η 5), .int a1, .int a2, .int a3, .int a4, .int a5] M Q := by
  refine ofW_g (Qc := fun A => Qi D (Ky κ) (cw κ η n) A Q) (cc := cX3_walk) (maxL := 12) (ret := (some .boolean)) (by decide) rfl (Nat.le_of_ble_eq_true rfl) ?_
  intro p e s m args below meth c A ls X hr hlk hw hl
  have hl : lv_has ls 12 [(0, .ref (η 5)), (1, .int a1), (2, .int a2), (3, .int a3), (4, .int a4), (5, .int a5)] := hl
  refine lv_iload_n X.1 X.2.1 dX3_walk_0 rfl (lv_at hl 2 rfl) ?_
  refine lv_bipush (v := (8 : Int32)) X.1 X.2.1 dX3_walk_1 (by decide) ?_
  obtain ⟨ht_, hf_⟩ := h
  refine lv_icmp_ge (tgt := 16) X.1 X.2.1 dX3_walk_3 (by decide) (fun c_ => ?_) (fun c_ => ?_)
  · have h := ht_ c_
    refine lv_iconst (v := (0 : Int32)) X.1 X.2.1 dX3_walk_16 (by decide) ?_
    exact r_zret X hr hlk hw rfl h dX3_walk_17
  · have h := hf_ c_
    refine lv_iload_n X.1 X.2.1 dX3_walk_6 rfl (lv_at hl 1 rfl) ?_
    refine lv_iconst (v := (0 : Int32)) X.1 X.2.1 dX3_walk_7 (by decide) ?_
    refine lv_bipush (v := (11 : Int32)) X.1 X.2.1 dX3_walk_8 (by decide) ?_
    refine r_SNi (As := [.int a1, .int (0 : Int32), .int (11 : Int32)]) (rest := []) X cN_ok (kX8_isWithin h) ⟨va_cnB 3 X.2.2.2.2 gX3_walk_X8_isWithin_n50 rfl rfl rfl (cN_X3_50 hw.2.2.2.2.2) (X.2.2.2.2 _ (by decide +kernel)) (by decide +kernel) ⟨by simp only [rmX3_walk, rmX8_isWithin]; omega, by simp only [rmX3_walk, rmX8_isWithin]; omega⟩, X.2.2.2.2 _ (by decide +kernel), trivial⟩ hw rfl hl.1 rfl (Nat.le_of_ble_eq_true rfl) dX3_walk_10 (fun r_2 M_1 H locs h hw => ?_)
    obtain ⟨ht_, hf_⟩ := h
    refine lv_if_ne (tgt := 18) X.1 X.2.1 dX3_walk_13 (by decide) (fun c_ => ?_) (fun c_ => ?_)
    · have h := ht_ c_
      refine lv_iconst (v := (0 : Int32)) X.1 X.2.1 dX3_walk_18 (by decide) ?_
      refine lv_istore (lv' := [(6, .int (0 : Int32)), (0, .ref (η 5)), (1, .int a1), (2, .int a2), (3, .int a3), (4, .int a4), (5, .int a5)]) X.1 X.2.1 dX3_walk_19 hl (by decide) rfl (fun ls hl => ?_)
      obtain ⟨f_, h⟩ := h
      exact bX3_walk_21 IH_ X hr hlk f_ M_1 a1 a2 a3 a4 a5 (0 : Int32) _ _ _ h hw (lv_sub hl [1, 2, 3, 4, 5, 6, 0] rfl)
    · have h := hf_ c_
      refine lv_iconst (v := (0 : Int32)) X.1 X.2.1 dX3_walk_16 (by decide) ?_
      exact r_zret X hr hlk hw rfl h dX3_walk_17
def wX3_walk (n : Nat) : Nat → Sg → Int32 → Int32 → Int32 → Int32 → Int32 → (Sg → Int32 → Prop) → Prop
  | 0 => fun _ _ _ _ _ _ _ => False
  | d_ + 1 => wX3_walk_b n (wX3_walk n d_)
theorem kX3_walk {l : Launch} {D : va_G} {κ : Nat → ClassId} {η : Nat → Nat} {σ : (Nat → Nat) × (Nat → Nat)} {n : Nat} : ∀ {d_ : Nat} {M : Sg} {a1 : Int32} {a2 : Int32} {a3 : Int32} {a4 : Int32} {a5 : Int32} {Q : Sg → Int32 → Prop}, wX3_walk n d_ M a1 a2 a3 a4 a5 Q → Ki (cN σ) D (Ky κ) (cw κ η n) l yX3_walk wsX3_walk (rmX3_walk d_) [.ref (η 5), .int a1, .int a2, .int a3, .int a4, .int a5] M Q := by
  intro d_
  induction d_ with
  | zero => intro M a1 a2 a3 a4 a5 Q h; exact h.elim
  | succ d_ IH_ => intro M a1 a2 a3 a4 a5 Q h; exact kX3_walk_b (W_ := wX3_walk n d_) IH_ h

theorem inX3_search_X3 : ∀ w ∈ wsX30, w ∈ wsX3_search := fun w h => List.mem_cons_of_mem _ (List.mem_append_right _ h)
abbrev rmX3_search : Room := { frames := 15, cells := 0, slots := 0, locals := 531 }
def wX3_search (n : Nat) (M : Sg) (a1 : Int32) (Q : Sg → Prop) : Prop := (∀ (M_1 : Sg), M_1 = sI M 11 a1 → (∀ (M_2 : Sg), M_2 = sI M_1 10 (0 : Int32) → (wX3_walk n 10 M_2 (0 : Int32) (0 : Int32) (0 : Int32) (0 : Int32) (0 : Int32) (fun M_3 r_4 => (Q M_3)))))
set_option maxHeartbeats 4000000 in
set_option maxRecDepth 100000 in
theorem kX3_search {l : Launch} {D : va_G} {κ : Nat → ClassId} {η : Nat → Nat} {σ : (Nat → Nat) × (Nat → Nat)} {n : Nat} {M : Sg} {a1 : Int32} {Q : Sg → Prop} (h : wX3_search n M a1 Q) : Kv (cN σ) D (Ky κ) (cw κ η n) l yX3_search wsX3_search rmX3_search [.ref (η 5), .int a1] M Q := by
  refine ofW_g (Qc := fun A => Qv D (Ky κ) (cw κ η n) A Q) (cc := cX3_search) (maxL := 2) (ret := none) (by decide) rfl (Nat.le_of_ble_eq_true rfl) ?_
  intro p e s m args below meth c A ls X hr hlk hw hl
  have hl : lv_has ls 2 [(0, .ref (η 5)), (1, .int a1)] := hl
  refine lv_aload_n X.1 X.2.1 dX3_search_0 rfl (lv_at hl 0 rfl) ?_
  refine lv_iload_n X.1 X.2.1 dX3_search_1 rfl (lv_at hl 1 rfl) ?_
  refine r_pf (ty := .int) (w' := cw κ η n (sI M 11 a1)) X inX3_search_X3 tyX3_ok nmX3 hw 5 rfl rfl 15 (by decide) (X.2.2.2.2 (.fieldLink RX3 93 "TestHall$Streets" "target" "I") (by decide +kernel)) rfl rfl (by decide +kernel) rfl rfl (Nat.le_of_ble_eq_true rfl) rfl dX3_search_2 (fun H locs hw => ?_)
  obtain ⟨M_1, eM_1⟩ : ∃ y : Sg, y = sI M 11 a1 := ⟨_, rfl⟩
  rw [← eM_1] at hw
  have h := h M_1 eM_1
  refine lv_aload_n X.1 X.2.1 dX3_search_5 rfl (lv_at hl 0 rfl) ?_
  refine lv_iconst (v := (0 : Int32)) X.1 X.2.1 dX3_search_6 (by decide) ?_
  refine r_pf (ty := .int) (w' := cw κ η n (sI M_1 10 (0 : Int32))) X inX3_search_X3 tyX3_ok nmX3 hw 5 rfl rfl 14 (by decide) (X.2.2.2.2 (.fieldLink RX3 71 "TestHall$Streets" "found" "I") (by decide +kernel)) rfl rfl (by decide +kernel) rfl rfl (Nat.le_of_ble_eq_true rfl) rfl dX3_search_7 (fun H locs hw => ?_)
  obtain ⟨M_2, eM_2⟩ : ∃ y : Sg, y = sI M_1 10 (0 : Int32) := ⟨_, rfl⟩
  rw [← eM_2] at hw
  have h := h M_2 eM_2
  refine lv_aload_n X.1 X.2.1 dX3_search_10 rfl (lv_at hl 0 rfl) ?_
  refine lv_iconst (v := (0 : Int32)) X.1 X.2.1 dX3_search_11 (by decide) ?_
  refine lv_iconst (v := (0 : Int32)) X.1 X.2.1 dX3_search_12 (by decide) ?_
  refine lv_iconst (v := (0 : Int32)) X.1 X.2.1 dX3_search_13 (by decide) ?_
  refine lv_iconst (v := (0 : Int32)) X.1 X.2.1 dX3_search_14 (by decide) ?_
  refine lv_iconst (v := (0 : Int32)) X.1 X.2.1 dX3_search_15 (by decide) ?_
  refine r_Vi (As := [.int (0 : Int32), .int (0 : Int32), .int (0 : Int32), .int (0 : Int32), .int (0 : Int32)]) (rest := []) X cN_ok (kX3_walk h) (cwV 5 X.2.2.2.2 gX3_search_X3_walk rfl rfl rfl (by decide +kernel) ⟨Nat.le_of_ble_eq_true rfl, Nat.le_of_ble_eq_true rfl⟩) hw 5 3 rfl rfl rfl hl.1 rfl (Nat.le_of_ble_eq_true rfl) dX3_search_16 (fun r_4 M_3 H locs h hw => ?_)
  refine lv_pop X.1 X.2.1 dX3_search_19 rfl ?_
  exact r_vret X hr hlk hw h dX3_search_20

theorem inX3_countRoutes_X3 : ∀ w ∈ wsX30, w ∈ wsX3_countRoutes := fun w h => List.mem_cons_of_mem _ (List.mem_append_right _ h)
abbrev rmX3_countRoutes : Room := { frames := 16, cells := 0, slots := 0, locals := 552 }
def vX3_countRoutes_27 (n : Nat) (Q : Sg → Int32 → Prop) (M : Sg) (x1 : Int32) (x2 : Int32) (x3 : Int32) (s0 : Int32) : Prop := ((s0 = 0 → (Q M (-1 : Int32))) ∧ (¬ s0 = 0 → (wX8_isWithin n M x3 (0 : Int32) (255 : Int32) (fun M_1 r_2 => ((¬ r_2 = 0 → (∀ (M_3 : Sg), M_3 = sI M_1 7 x1 → (∀ (M_4 : Sg), M_4 = sI M_3 8 x2 → (∀ (M_5 : Sg), M_5 = sI M_4 9 x3 → (wX3_search n M_5 (-1 : Int32) (fun M_6 => (Q M_6 (gI M_6 10)))))))) ∧ (r_2 = 0 → (Q M_1 (-1 : Int32))))))))
set_option maxHeartbeats 4000000 in
set_option maxRecDepth 100000 in
theorem bX3_countRoutes_27 {p : Program} {l : Launch} {e : Env} {s : State} {m : MethodId} {args : Array Value} {below : List Frame} {meth : Method} {c : Code} {D : va_G} {κ : Nat → ClassId} {η : Nat → Nat} {σ : (Nat → Nat) × (Nat → Nat)} {A : Nat → Prop} {n : Nat} {Q : Sg → Int32 → Prop} (X : CallFix p m c cX3_countRoutes 5 s args wsX3_countRoutes RX3) (hr : meth.sig.returnType = (some .int)) (hlk : meth.locks = false) : ∀ (M : Sg) (x1 : Int32) (x2 : Int32) (x3 : Int32) (s0 : Int32) (H : Heap) (locs : List Loc) (ls : Array Slot), vX3_countRoutes_27 n Q M x1 x2 x3 s0 → Wd (cN σ) D (Ky κ) A s (cw κ η n M) H locs → lv_has ls 5 [(0, .ref (η 5)), (1, .int x1), (2, .int x2), (3, .int x3)] → W p l e rmX3_countRoutes s m args below meth c H locs 0 0 (MQ below (Qi D (Ky κ) (cw κ η n) A Q) args s 0 0 A) (F0 m 27 ls [.int s0]) := by
  intro M x1 x2 x3 s0 H locs ls h hw hl
  refine lv_istore (lv' := [(4, .int s0), (0, .ref (η 5)), (1, .int x1), (2, .int x2), (3, .int x3)]) X.1 X.2.1 dX3_countRoutes_27 hl (by decide) rfl (fun ls hl => ?_)
  refine lv_iload X.1 X.2.1 dX3_countRoutes_29 (lv_at hl 0 rfl) ?_
  obtain ⟨ht_, hf_⟩ := h
  refine lv_if_eq (tgt := 45) X.1 X.2.1 dX3_countRoutes_31 (by decide) (fun c_ => ?_) (fun c_ => ?_)
  · have h := ht_ c_
    refine lv_iconst (v := (-1 : Int32)) X.1 X.2.1 dX3_countRoutes_45 (by decide) ?_
    exact r_ret X hr hlk hw h dX3_countRoutes_46
  · have h := hf_ c_
    refine lv_iload_n X.1 X.2.1 dX3_countRoutes_34 rfl (lv_at hl 4 rfl) ?_
    refine lv_iconst (v := (0 : Int32)) X.1 X.2.1 dX3_countRoutes_35 (by decide) ?_
    refine lv_sipush (v := (255 : Int32)) X.1 X.2.1 dX3_countRoutes_36 (by decide) ?_
    refine r_SNi (As := [.int x3, .int (0 : Int32), .int (255 : Int32)]) (rest := []) X cN_ok (kX8_isWithin h) ⟨va_cnB 3 X.2.2.2.2 gX3_countRoutes_X8_isWithin_n50 rfl rfl rfl (cN_X3_50 hw.2.2.2.2.2) (X.2.2.2.2 _ (by decide +kernel)) (by decide +kernel) ⟨Nat.le_of_ble_eq_true rfl, Nat.le_of_ble_eq_true rfl⟩, X.2.2.2.2 _ (by decide +kernel), trivial⟩ hw rfl hl.1 rfl (Nat.le_of_ble_eq_true rfl) dX3_countRoutes_39 (fun r_2 M_1 H locs h hw => ?_)
    obtain ⟨ht_, hf_⟩ := h
    refine lv_if_ne (tgt := 47) X.1 X.2.1 dX3_countRoutes_42 (by decide) (fun c_ => ?_) (fun c_ => ?_)
    · have h := ht_ c_
      refine lv_aload_n X.1 X.2.1 dX3_countRoutes_47 rfl (lv_at hl 1 rfl) ?_
      refine lv_iload_n X.1 X.2.1 dX3_countRoutes_48 rfl (lv_at hl 2 rfl) ?_
      refine r_pf (ty := .int) (w' := cw κ η n (sI M_1 7 x1)) X inX3_countRoutes_X3 tyX3_ok nmX3 hw 5 rfl rfl 11 (by decide) (X.2.2.2.2 (.fieldLink RX3 58 "TestHall$Streets" "least" "I") (by decide +kernel)) rfl rfl (by decide +kernel) rfl rfl (Nat.le_of_ble_eq_true rfl) rfl dX3_countRoutes_49 (fun H locs hw => ?_)
      obtain ⟨M_3, eM_3⟩ : ∃ y : Sg, y = sI M_1 7 x1 := ⟨_, rfl⟩
      rw [← eM_3] at hw
      have h := h M_3 eM_3
      refine lv_aload_n X.1 X.2.1 dX3_countRoutes_52 rfl (lv_at hl 1 rfl) ?_
      refine lv_iload_n X.1 X.2.1 dX3_countRoutes_53 rfl (lv_at hl 3 rfl) ?_
      refine r_pf (ty := .int) (w' := cw κ η n (sI M_3 8 x2)) X inX3_countRoutes_X3 tyX3_ok nmX3 hw 5 rfl rfl 12 (by decide) (X.2.2.2.2 (.fieldLink RX3 61 "TestHall$Streets" "most" "I") (by decide +kernel)) rfl rfl (by decide +kernel) rfl rfl (Nat.le_of_ble_eq_true rfl) rfl dX3_countRoutes_54 (fun H locs hw => ?_)
      obtain ⟨M_4, eM_4⟩ : ∃ y : Sg, y = sI M_3 8 x2 := ⟨_, rfl⟩
      rw [← eM_4] at hw
      have h := h M_4 eM_4
      refine lv_aload_n X.1 X.2.1 dX3_countRoutes_57 rfl (lv_at hl 1 rfl) ?_
      refine lv_iload_n X.1 X.2.1 dX3_countRoutes_58 rfl (lv_at hl 4 rfl) ?_
      refine r_pf (ty := .int) (w' := cw κ η n (sI M_4 9 x3)) X inX3_countRoutes_X3 tyX3_ok nmX3 hw 5 rfl rfl 13 (by decide) (X.2.2.2.2 (.fieldLink RX3 64 "TestHall$Streets" "wanted" "I") (by decide +kernel)) rfl rfl (by decide +kernel) rfl rfl (Nat.le_of_ble_eq_true rfl) rfl dX3_countRoutes_59 (fun H locs hw => ?_)
      obtain ⟨M_5, eM_5⟩ : ∃ y : Sg, y = sI M_4 9 x3 := ⟨_, rfl⟩
      rw [← eM_5] at hw
      have h := h M_5 eM_5
      refine lv_aload_n X.1 X.2.1 dX3_countRoutes_62 rfl (lv_at hl 1 rfl) ?_
      refine lv_iconst (v := (-1 : Int32)) X.1 X.2.1 dX3_countRoutes_63 (by decide) ?_
      refine r_Vv (As := [.int (-1 : Int32)]) (rest := []) X cN_ok (kX3_search h) (cwV 1 X.2.2.2.2 gX3_countRoutes_X3_search rfl rfl rfl (by decide +kernel) ⟨Nat.le_of_ble_eq_true rfl, Nat.le_of_ble_eq_true rfl⟩) hw 5 3 rfl rfl rfl hl.1 rfl (Nat.le_of_ble_eq_true rfl) dX3_countRoutes_64 (fun M_6 H locs h hw => ?_)
      refine lv_aload_n X.1 X.2.1 dX3_countRoutes_67 rfl (lv_at hl 1 rfl) ?_
      refine r_gf X inX3_countRoutes_X3 hw 5 rfl rfl 14 (by decide) (X.2.2.2.2 (.fieldLink RX3 71 "TestHall$Streets" "found" "I") (by decide +kernel)) rfl rfl dX3_countRoutes_68 ?_
      exact r_ret X hr hlk hw h dX3_countRoutes_71
    · have h := hf_ c_
      refine lv_iconst (v := (-1 : Int32)) X.1 X.2.1 dX3_countRoutes_45 (by decide) ?_
      exact r_ret X hr hlk hw h dX3_countRoutes_46
def vX3_countRoutes_26 (n : Nat) (Q : Sg → Int32 → Prop) (M : Sg) (x1 : Int32) (x2 : Int32) (x3 : Int32) : Prop := (vX3_countRoutes_27 n Q M x1 x2 x3 (0 : Int32))
set_option maxHeartbeats 4000000 in
set_option maxRecDepth 100000 in
theorem bX3_countRoutes_26 {p : Program} {l : Launch} {e : Env} {s : State} {m : MethodId} {args : Array Value} {below : List Frame} {meth : Method} {c : Code} {D : va_G} {κ : Nat → ClassId} {η : Nat → Nat} {σ : (Nat → Nat) × (Nat → Nat)} {A : Nat → Prop} {n : Nat} {Q : Sg → Int32 → Prop} (X : CallFix p m c cX3_countRoutes 5 s args wsX3_countRoutes RX3) (hr : meth.sig.returnType = (some .int)) (hlk : meth.locks = false) : ∀ (M : Sg) (x1 : Int32) (x2 : Int32) (x3 : Int32) (H : Heap) (locs : List Loc) (ls : Array Slot), vX3_countRoutes_26 n Q M x1 x2 x3 → Wd (cN σ) D (Ky κ) A s (cw κ η n M) H locs → lv_has ls 5 [(0, .ref (η 5)), (1, .int x1), (2, .int x2), (3, .int x3)] → W p l e rmX3_countRoutes s m args below meth c H locs 0 0 (MQ below (Qi D (Ky κ) (cw κ η n) A Q) args s 0 0 A) (F0 m 26 ls []) := by
  intro M x1 x2 x3 H locs ls h hw hl
  refine lv_iconst (v := (0 : Int32)) X.1 X.2.1 dX3_countRoutes_26 (by decide) ?_
  exact bX3_countRoutes_27 X hr hlk M x1 x2 x3 (0 : Int32) _ _ _ h hw (lv_sub hl [0, 1, 2, 3] rfl)
def wX3_countRoutes (n : Nat) (M : Sg) (a1 : Int32) (a2 : Int32) (a3 : Int32) (Q : Sg → Int32 → Prop) : Prop := (wX8_isWithin n M a1 (0 : Int32) (240 : Int32) (fun M_1 r_2 => ((r_2 = 0 → (vX3_countRoutes_26 n Q M_1 a1 a2 a3)) ∧ (¬ r_2 = 0 → (wX8_isWithin n M_1 a2 (0 : Int32) (240 : Int32) (fun M_3 r_4 => ((r_4 = 0 → (vX3_countRoutes_26 n Q M_3 a1 a2 a3)) ∧ (¬ r_4 = 0 → (vX3_countRoutes_27 n Q M_3 a1 a2 a3 (1 : Int32))))))))))
set_option maxHeartbeats 4000000 in
set_option maxRecDepth 100000 in
theorem kX3_countRoutes {l : Launch} {D : va_G} {κ : Nat → ClassId} {η : Nat → Nat} {σ : (Nat → Nat) × (Nat → Nat)} {n : Nat} {M : Sg} {a1 : Int32} {a2 : Int32} {a3 : Int32} {Q : Sg → Int32 → Prop} (h : wX3_countRoutes n M a1 a2 a3 Q) : Ki (cN σ) D (Ky κ) (cw κ η n) l yX3_countRoutes wsX3_countRoutes rmX3_countRoutes [.ref (η 5), .int a1, .int a2, .int a3] M Q := by
  refine ofW_g (Qc := fun A => Qi D (Ky κ) (cw κ η n) A Q) (cc := cX3_countRoutes) (maxL := 5) (ret := (some .int)) (by decide) rfl (Nat.le_of_ble_eq_true rfl) ?_
  intro p e s m args below meth c A ls X hr hlk hw hl
  have hl : lv_has ls 5 [(0, .ref (η 5)), (1, .int a1), (2, .int a2), (3, .int a3)] := hl
  refine lv_iload_n X.1 X.2.1 dX3_countRoutes_0 rfl (lv_at hl 1 rfl) ?_
  refine lv_iconst (v := (0 : Int32)) X.1 X.2.1 dX3_countRoutes_1 (by decide) ?_
  refine lv_sipush (v := (240 : Int32)) X.1 X.2.1 dX3_countRoutes_2 (by decide) ?_
  refine r_SNi (As := [.int a1, .int (0 : Int32), .int (240 : Int32)]) (rest := []) X cN_ok (kX8_isWithin h) ⟨va_cnB 3 X.2.2.2.2 gX3_countRoutes_X8_isWithin_n50 rfl rfl rfl (cN_X3_50 hw.2.2.2.2.2) (X.2.2.2.2 _ (by decide +kernel)) (by decide +kernel) ⟨Nat.le_of_ble_eq_true rfl, Nat.le_of_ble_eq_true rfl⟩, X.2.2.2.2 _ (by decide +kernel), trivial⟩ hw rfl hl.1 rfl (Nat.le_of_ble_eq_true rfl) dX3_countRoutes_5 (fun r_2 M_1 H locs h hw => ?_)
  obtain ⟨ht_, hf_⟩ := h
  refine lv_if_eq (tgt := 26) X.1 X.2.1 dX3_countRoutes_8 (by decide) (fun c_ => ?_) (fun c_ => ?_)
  · have h := ht_ c_
    exact bX3_countRoutes_26 X hr hlk M_1 a1 a2 a3 _ _ _ h hw (lv_sub hl [0, 1, 2, 3] rfl)
  · have h := hf_ c_
    refine lv_iload_n X.1 X.2.1 dX3_countRoutes_11 rfl (lv_at hl 2 rfl) ?_
    refine lv_iconst (v := (0 : Int32)) X.1 X.2.1 dX3_countRoutes_12 (by decide) ?_
    refine lv_sipush (v := (240 : Int32)) X.1 X.2.1 dX3_countRoutes_13 (by decide) ?_
    refine r_SNi (As := [.int a2, .int (0 : Int32), .int (240 : Int32)]) (rest := []) X cN_ok (kX8_isWithin h) ⟨va_cnB 3 X.2.2.2.2 gX3_countRoutes_X8_isWithin_n50 rfl rfl rfl (cN_X3_50 hw.2.2.2.2.2) (X.2.2.2.2 _ (by decide +kernel)) (by decide +kernel) ⟨Nat.le_of_ble_eq_true rfl, Nat.le_of_ble_eq_true rfl⟩, X.2.2.2.2 _ (by decide +kernel), trivial⟩ hw rfl hl.1 rfl (Nat.le_of_ble_eq_true rfl) dX3_countRoutes_16 (fun r_4 M_3 H locs h hw => ?_)
    obtain ⟨ht_, hf_⟩ := h
    refine lv_if_eq (tgt := 26) X.1 X.2.1 dX3_countRoutes_19 (by decide) (fun c_ => ?_) (fun c_ => ?_)
    · have h := ht_ c_
      exact bX3_countRoutes_26 X hr hlk M_3 a1 a2 a3 _ _ _ h hw (lv_sub hl [0, 1, 2, 3] rfl)
    · have h := hf_ c_
      refine lv_iconst (v := (1 : Int32)) X.1 X.2.1 dX3_countRoutes_22 (by decide) ?_
      refine lv_goto (tgt := 27) X.1 X.2.1 dX3_countRoutes_23 (by decide) ?_
      exact bX3_countRoutes_27 X hr hlk M_3 a1 a2 a3 (1 : Int32) _ _ _ h hw (lv_sub hl [0, 1, 2, 3] rfl)

theorem inX3_draw_X3 : ∀ w ∈ wsX30, w ∈ wsX3_draw := fun w h => List.mem_cons_of_mem _ (List.mem_append_right _ h)
abbrev rmX3_draw : Room := { frames := 17, cells := 0, slots := 0, locals := 576 }
def vX3_draw_16 (n : Nat) (Q : Sg → Int32 → Prop) (M : Sg) (x4 : Int32) (s0 : Int32) : Prop := ((0 < s0 → (¬ s0 = 0 ∧ (wX3_search n M (x4 - x4 / s0 * s0) (fun M_1 => (∀ (M_3 : Sg), M_3 = sR M_1 26 (va_cpy (gA M_1 25) (gA M_1 26) 0 0 8) → (∀ (M_4 : Sg), M_4 = sI M_3 6 (gI M_3 12) → (Q M_4 (gI M_4 13)))))))) ∧ (¬ 0 < s0 → (Q M (-1 : Int32))))
set_option maxHeartbeats 4000000 in
set_option maxRecDepth 100000 in
theorem bX3_draw_16 {p : Program} {l : Launch} {e : Env} {s : State} {m : MethodId} {args : Array Value} {below : List Frame} {meth : Method} {c : Code} {D : va_G} {κ : Nat → ClassId} {η : Nat → Nat} {σ : (Nat → Nat) × (Nat → Nat)} {A : Nat → Prop} {n : Nat} {Q : Sg → Int32 → Prop} (X : CallFix p m c cX3_draw 6 s args wsX3_draw RX3) (hr : meth.sig.returnType = (some .int)) (hlk : meth.locks = false) : ∀ (M : Sg) (x4 : Int32) (s0 : Int32) (H : Heap) (locs : List Loc) (ls : Array Slot), vX3_draw_16 n Q M x4 s0 → Wd (cN σ) D (Ky κ) A s (cw κ η n M) H locs → lv_has ls 6 [(0, .ref (η 5)), (4, .int x4)] → W p l e rmX3_draw s m args below meth c H locs 0 0 (MQ below (Qi D (Ky κ) (cw κ η n) A Q) args s 0 0 A) (F0 m 16 ls [.int s0]) := by
  intro M x4 s0 H locs ls h hw hl
  refine lv_istore (lv' := [(5, .int s0), (0, .ref (η 5)), (4, .int x4)]) X.1 X.2.1 dX3_draw_16 hl (by decide) rfl (fun ls hl => ?_)
  refine lv_iload X.1 X.2.1 dX3_draw_18 (lv_at hl 0 rfl) ?_
  obtain ⟨ht_, hf_⟩ := h
  refine lv_if_gt (tgt := 25) X.1 X.2.1 dX3_draw_20 (by decide) (fun c_ => ?_) (fun c_ => ?_)
  · have h := ht_ c_
    refine lv_aload_n X.1 X.2.1 dX3_draw_25 rfl (lv_at hl 1 rfl) ?_
    refine lv_iload X.1 X.2.1 dX3_draw_26 (lv_at hl 2 rfl) ?_
    refine lv_iload X.1 X.2.1 dX3_draw_28 (lv_at hl 0 rfl) ?_
    obtain ⟨hz, h⟩ := h
    refine lv_irem X.1 X.2.1 dX3_draw_30 hz ?_
    refine r_Vv (As := [.int (x4 - x4 / s0 * s0)]) (rest := []) X cN_ok (kX3_search h) (cwV 1 X.2.2.2.2 gX3_draw_X3_search rfl rfl rfl (by decide +kernel) ⟨Nat.le_of_ble_eq_true rfl, Nat.le_of_ble_eq_true rfl⟩) hw 5 3 rfl rfl rfl hl.1 rfl (Nat.le_of_ble_eq_true rfl) dX3_draw_31 (fun M_1 H locs h hw => ?_)
    refine lv_aload_n X.1 X.2.1 dX3_draw_34 rfl (lv_at hl 1 rfl) ?_
    refine r_gf X inX3_draw_X3 hw 5 rfl rfl 7 (by decide) (X.2.2.2.2 (.fieldLink RX3 36 "TestHall$Streets" "path" "[I") (by decide +kernel)) rfl rfl dX3_draw_35 ?_
    refine lv_iconst (v := (0 : Int32)) X.1 X.2.1 dX3_draw_38 (by decide) ?_
    refine lv_aload_n X.1 X.2.1 dX3_draw_39 rfl (lv_at hl 1 rfl) ?_
    refine r_gf X inX3_draw_X3 hw 5 rfl rfl 8 (by decide) (X.2.2.2.2 (.fieldLink RX3 39 "TestHall$Streets" "drawn" "[I") (by decide +kernel)) rfl rfl dX3_draw_40 ?_
    refine lv_iconst (v := (0 : Int32)) X.1 X.2.1 dX3_draw_43 (by decide) ?_
    refine lv_bipush (v := (8 : Int32)) X.1 X.2.1 dX3_draw_44 (by decide) ?_
    refine r_copy X hw hl.1 (X.2.2.2.2 _ (by decide +kernel)) (X.2.2.2.2 _ (by decide +kernel)) (X.2.2.2.2 _ (by decide +kernel)) (X.2.2.2.2 _ (by decide +kernel)) (by decide) (by decide) dX3_draw_46 (fun H locs hw => ?_)
    obtain ⟨M_3, eM_3⟩ : ∃ y : Sg, y = sR M_1 26 (va_cpy (gA M_1 25) (gA M_1 26) 0 0 8) := ⟨_, rfl⟩
    rw [← eM_3] at hw
    have h := h M_3 eM_3
    refine lv_aload_n X.1 X.2.1 dX3_draw_49 rfl (lv_at hl 1 rfl) ?_
    refine lv_aload_n X.1 X.2.1 dX3_draw_50 rfl (lv_at hl 1 rfl) ?_
    refine r_gf X inX3_draw_X3 hw 5 rfl rfl 16 (by decide) (X.2.2.2.2 (.fieldLink RX3 84 "TestHall$Streets" "foundParts" "I") (by decide +kernel)) rfl rfl dX3_draw_51 ?_
    refine r_pf (ty := .int) (w' := cw κ η n (sI M_3 6 (gI M_3 12))) X inX3_draw_X3 tyX3_ok nmX3 hw 5 rfl rfl 10 (by decide) (X.2.2.2.2 (.fieldLink RX3 87 "TestHall$Streets" "drawnParts" "I") (by decide +kernel)) rfl rfl (by decide +kernel) rfl rfl (Nat.le_of_ble_eq_true rfl) rfl dX3_draw_54 (fun H locs hw => ?_)
    obtain ⟨M_4, eM_4⟩ : ∃ y : Sg, y = sI M_3 6 (gI M_3 12) := ⟨_, rfl⟩
    rw [← eM_4] at hw
    have h := h M_4 eM_4
    refine lv_aload_n X.1 X.2.1 dX3_draw_57 rfl (lv_at hl 1 rfl) ?_
    refine r_gf X inX3_draw_X3 hw 5 rfl rfl 17 (by decide) (X.2.2.2.2 (.fieldLink RX3 90 "TestHall$Streets" "foundMinutes" "I") (by decide +kernel)) rfl rfl dX3_draw_58 ?_
    exact r_ret X hr hlk hw h dX3_draw_61
  · have h := hf_ c_
    refine lv_iconst (v := (-1 : Int32)) X.1 X.2.1 dX3_draw_23 (by decide) ?_
    exact r_ret X hr hlk hw h dX3_draw_24
def wX3_draw (n : Nat) (M : Sg) (a1 : Int32) (a2 : Int32) (a3 : Int32) (a4 : Int32) (Q : Sg → Int32 → Prop) : Prop := ((0 ≤ a4 → (wX3_countRoutes n M a1 a2 a3 (fun M_1 r_2 => (vX3_draw_16 n Q M_1 a4 r_2)))) ∧ (¬ 0 ≤ a4 → (vX3_draw_16 n Q M a4 (-1 : Int32))))
set_option maxHeartbeats 4000000 in
set_option maxRecDepth 100000 in
theorem kX3_draw {l : Launch} {D : va_G} {κ : Nat → ClassId} {η : Nat → Nat} {σ : (Nat → Nat) × (Nat → Nat)} {n : Nat} {M : Sg} {a1 : Int32} {a2 : Int32} {a3 : Int32} {a4 : Int32} {Q : Sg → Int32 → Prop} (h : wX3_draw n M a1 a2 a3 a4 Q) : Ki (cN σ) D (Ky κ) (cw κ η n) l yX3_draw wsX3_draw rmX3_draw [.ref (η 5), .int a1, .int a2, .int a3, .int a4] M Q := by
  refine ofW_g (Qc := fun A => Qi D (Ky κ) (cw κ η n) A Q) (cc := cX3_draw) (maxL := 6) (ret := (some .int)) (by decide) rfl (Nat.le_of_ble_eq_true rfl) ?_
  intro p e s m args below meth c A ls X hr hlk hw hl
  have hl : lv_has ls 6 [(0, .ref (η 5)), (1, .int a1), (2, .int a2), (3, .int a3), (4, .int a4)] := hl
  refine lv_iload X.1 X.2.1 dX3_draw_0 (lv_at hl 4 rfl) ?_
  obtain ⟨ht_, hf_⟩ := h
  refine lv_if_ge (tgt := 9) X.1 X.2.1 dX3_draw_2 (by decide) (fun c_ => ?_) (fun c_ => ?_)
  · have h := ht_ c_
    refine lv_aload_n X.1 X.2.1 dX3_draw_9 rfl (lv_at hl 0 rfl) ?_
    refine lv_iload_n X.1 X.2.1 dX3_draw_10 rfl (lv_at hl 1 rfl) ?_
    refine lv_iload_n X.1 X.2.1 dX3_draw_11 rfl (lv_at hl 2 rfl) ?_
    refine lv_iload_n X.1 X.2.1 dX3_draw_12 rfl (lv_at hl 3 rfl) ?_
    refine r_Vi (As := [.int a1, .int a2, .int a3]) (rest := []) X cN_ok (kX3_countRoutes h) (cwV 3 X.2.2.2.2 gX3_draw_X3_countRoutes rfl rfl rfl (by decide +kernel) ⟨Nat.le_of_ble_eq_true rfl, Nat.le_of_ble_eq_true rfl⟩) hw 5 3 rfl rfl rfl hl.1 rfl (Nat.le_of_ble_eq_true rfl) dX3_draw_13 (fun r_2 M_1 H locs h hw => ?_)
    exact bX3_draw_16 X hr hlk M_1 a4 r_2 _ _ _ h hw (lv_sub hl [0, 4] rfl)
  · have h := hf_ c_
    refine lv_iconst (v := (-1 : Int32)) X.1 X.2.1 dX3_draw_5 (by decide) ?_
    refine lv_goto (tgt := 16) X.1 X.2.1 dX3_draw_6 (by decide) ?_
    exact bX3_draw_16 X hr hlk M a4 (-1 : Int32) _ _ _ h hw (lv_sub hl [0, 4] rfl)

theorem inX3_drawnStreet_X3 : ∀ w ∈ wsX30, w ∈ wsX3_drawnStreet := fun w h => List.mem_cons_of_mem _ (List.mem_append_right _ h)
abbrev rmX3_drawnStreet : Room := { frames := 1, cells := 0, slots := 0, locals := 22 }
def wX3_drawnStreet (n : Nat) (M : Sg) (a1 : Int32) (Q : Sg → Int32 → Prop) : Prop := (wX8_isWithin n M a1 (0 : Int32) ((gI M 6) - (1 : Int32)) (fun M_1 r_2 => ((r_2 = 0 → (Q M_1 (-1 : Int32))) ∧ (¬ r_2 = 0 → (vp_in a1 8 ∧ (Q M_1 (gA M_1 26 a1.toNatClampNeg)))))))
set_option maxHeartbeats 4000000 in
set_option maxRecDepth 100000 in
theorem kX3_drawnStreet {l : Launch} {D : va_G} {κ : Nat → ClassId} {η : Nat → Nat} {σ : (Nat → Nat) × (Nat → Nat)} {n : Nat} {M : Sg} {a1 : Int32} {Q : Sg → Int32 → Prop} (h : wX3_drawnStreet n M a1 Q) : Ki (cN σ) D (Ky κ) (cw κ η n) l yX3_drawnStreet wsX3_drawnStreet rmX3_drawnStreet [.ref (η 5), .int a1] M Q := by
  refine ofW_g (Qc := fun A => Qi D (Ky κ) (cw κ η n) A Q) (cc := cX3_drawnStreet) (maxL := 2) (ret := (some .int)) (by decide) rfl (Nat.le_of_ble_eq_true rfl) ?_
  intro p e s m args below meth c A ls X hr hlk hw hl
  have hl : lv_has ls 2 [(0, .ref (η 5)), (1, .int a1)] := hl
  refine lv_iload_n X.1 X.2.1 dX3_drawnStreet_0 rfl (lv_at hl 1 rfl) ?_
  refine lv_iconst (v := (0 : Int32)) X.1 X.2.1 dX3_drawnStreet_1 (by decide) ?_
  refine lv_aload_n X.1 X.2.1 dX3_drawnStreet_2 rfl (lv_at hl 0 rfl) ?_
  refine r_gf X inX3_drawnStreet_X3 hw 5 rfl rfl 10 (by decide) (X.2.2.2.2 (.fieldLink RX3 87 "TestHall$Streets" "drawnParts" "I") (by decide +kernel)) rfl rfl dX3_drawnStreet_3 ?_
  refine lv_iconst (v := (1 : Int32)) X.1 X.2.1 dX3_drawnStreet_6 (by decide) ?_
  refine lv_isub X.1 X.2.1 dX3_drawnStreet_7 ?_
  refine r_SNi (As := [.int a1, .int (0 : Int32), .int ((gI M 6) - (1 : Int32))]) (rest := []) X cN_ok (kX8_isWithin h) ⟨va_cnB 3 X.2.2.2.2 gX3_drawnStreet_X8_isWithin_n50 rfl rfl rfl (cN_X3_50 hw.2.2.2.2.2) (X.2.2.2.2 _ (by decide +kernel)) (by decide +kernel) ⟨Nat.le_of_ble_eq_true rfl, Nat.le_of_ble_eq_true rfl⟩, X.2.2.2.2 _ (by decide +kernel), trivial⟩ hw rfl hl.1 rfl (Nat.le_of_ble_eq_true rfl) dX3_drawnStreet_8 (fun r_2 M_1 H locs h hw => ?_)
  obtain ⟨ht_, hf_⟩ := h
  refine lv_if_eq (tgt := 23) X.1 X.2.1 dX3_drawnStreet_11 (by decide) (fun c_ => ?_) (fun c_ => ?_)
  · have h := ht_ c_
    refine lv_iconst (v := (-1 : Int32)) X.1 X.2.1 dX3_drawnStreet_23 (by decide) ?_
    exact r_ret X hr hlk hw h dX3_drawnStreet_24
  · have h := hf_ c_
    refine lv_aload_n X.1 X.2.1 dX3_drawnStreet_14 rfl (lv_at hl 0 rfl) ?_
    refine r_gf X inX3_drawnStreet_X3 hw 5 rfl rfl 8 (by decide) (X.2.2.2.2 (.fieldLink RX3 39 "TestHall$Streets" "drawn" "[I") (by decide +kernel)) rfl rfl dX3_drawnStreet_15 ?_
    refine lv_iload_n X.1 X.2.1 dX3_drawnStreet_18 rfl (lv_at hl 1 rfl) ?_
    obtain ⟨hi_, h⟩ := h
    refine r_ial X hw 35 0 rfl rfl hi_ dX3_drawnStreet_19 ?_
    refine lv_goto (tgt := 24) X.1 X.2.1 dX3_drawnStreet_20 (by decide) ?_
    exact r_ret X hr hlk hw h dX3_drawnStreet_24

theorem inX4_addEight_X4 : ∀ w ∈ wsX40, w ∈ wsX4_addEight := fun w h => List.mem_cons_of_mem _ (List.mem_append_right _ h)
abbrev rmX4_addEight : Room := { frames := 1, cells := 0, slots := 0, locals := 22 }
def vX4_addEight_80 (n : Nat) (K3 : Sg → Int64 → Int32 → Prop) (Q : Sg → Prop) (M : Sg) (x1 : Int64) (x3 : Int32) : Prop := (∀ (x_1 : Int32), x_1 = x3 + (-8 : Int32) → (K3 M x1 x_1))
set_option maxHeartbeats 4000000 in
set_option maxRecDepth 100000 in
theorem bX4_addEight_80 {p : Program} {l : Launch} {e : Env} {s : State} {m : MethodId} {args : Array Value} {below : List Frame} {meth : Method} {c : Code} {D : va_G} {κ : Nat → ClassId} {η : Nat → Nat} {σ : (Nat → Nat) × (Nat → Nat)} {A : Nat → Prop} {n : Nat} {Q : Sg → Prop} {K3 : Sg → Int64 → Int32 → Prop} (X : CallFix p m c cX4_addEight 6 s args wsX4_addEight RX4) (hr : meth.sig.returnType = none) (hlk : meth.locks = false) (hK3 : ∀ (M : Sg) (x1 : Int64) (x3 : Int32) (H : Heap) (locs : List Loc) (ls : Array Slot), K3 M x1 x3 → Wd (cN σ) D (Ky κ) A s (cw κ η n M) H locs → lv_has ls 6 [(0, .ref (η 3)), (1, .long x1), (3, .int x3)] → W p l e rmX4_addEight s m args below meth c H locs 0 0 (MQ below (Qv D (Ky κ) (cw κ η n) A Q) args s 0 0 A) (F0 m 3 ls [])) : ∀ (M : Sg) (x1 : Int64) (x3 : Int32) (H : Heap) (locs : List Loc) (ls : Array Slot), vX4_addEight_80 n K3 Q M x1 x3 → Wd (cN σ) D (Ky κ) A s (cw κ η n M) H locs → lv_has ls 6 [(0, .ref (η 3)), (1, .long x1), (3, .int x3)] → W p l e rmX4_addEight s m args below meth c H locs 0 0 (MQ below (Qv D (Ky κ) (cw κ η n) A Q) args s 0 0 A) (F0 m 80 ls []) := by
  intro M x1 x3 H locs ls h hw hl
  obtain ⟨x_1, ex_1⟩ : ∃ y : Int32, y = x3 + (-8 : Int32) := ⟨_, rfl⟩
  have h := h x_1 ex_1
  refine lv_iinc (v := x_1) (lv' := [(3, .int x_1), (0, .ref (η 3)), (1, .long x1)]) X.1 X.2.1 dX4_addEight_80 hl (k := 2) rfl (by rw [ex_1]; rfl) (by decide) rfl (fun ls hl => ?_)
  refine lv_goto (tgt := 3) X.1 X.2.1 dX4_addEight_83 (by decide) ?_
  exact hK3 M x1 x_1 _ _ _ h hw (lv_sub hl [1, 2, 0] rfl)
def vX4_addEight_41 (n : Nat) (K3 : Sg → Int64 → Int32 → Prop) (Q : Sg → Prop) (M : Sg) (x1 : Int64) (x3 : Int32) (x4 : Int32) (s0 : Int32) : Prop := ((s0 = 0 → (vX4_addEight_80 n K3 Q M x1 x3)) ∧ (¬ s0 = 0 → (((600 : Int32) ≤ (gI M 14) → (vX4_addEight_80 n K3 Q M x1 x3)) ∧ (¬ (600 : Int32) ≤ (gI M 14) → (vp_in (gI M 14) 600 ∧ (∀ (M_1 : Sg), M_1 = sA M 8 (gI M 14).toNatClampNeg (vp_nar .char ((x4.toUInt32 % 65536).toInt32)) → (∀ (M_2 : Sg), M_2 = sI M_1 14 ((gI M_1 14) + (1 : Int32)) → (vX4_addEight_80 n K3 Q M_2 x1 x3))))))))
set_option maxHeartbeats 4000000 in
set_option maxRecDepth 100000 in
theorem bX4_addEight_41 {p : Program} {l : Launch} {e : Env} {s : State} {m : MethodId} {args : Array Value} {below : List Frame} {meth : Method} {c : Code} {D : va_G} {κ : Nat → ClassId} {η : Nat → Nat} {σ : (Nat → Nat) × (Nat → Nat)} {A : Nat → Prop} {n : Nat} {Q : Sg → Prop} {K3 : Sg → Int64 → Int32 → Prop} (X : CallFix p m c cX4_addEight 6 s args wsX4_addEight RX4) (hr : meth.sig.returnType = none) (hlk : meth.locks = false) (hK3 : ∀ (M : Sg) (x1 : Int64) (x3 : Int32) (H : Heap) (locs : List Loc) (ls : Array Slot), K3 M x1 x3 → Wd (cN σ) D (Ky κ) A s (cw κ η n M) H locs → lv_has ls 6 [(0, .ref (η 3)), (1, .long x1), (3, .int x3)] → W p l e rmX4_addEight s m args below meth c H locs 0 0 (MQ below (Qv D (Ky κ) (cw κ η n) A Q) args s 0 0 A) (F0 m 3 ls [])) : ∀ (M : Sg) (x1 : Int64) (x3 : Int32) (x4 : Int32) (s0 : Int32) (H : Heap) (locs : List Loc) (ls : Array Slot), vX4_addEight_41 n K3 Q M x1 x3 x4 s0 → Wd (cN σ) D (Ky κ) A s (cw κ η n M) H locs → lv_has ls 6 [(0, .ref (η 3)), (1, .long x1), (3, .int x3), (4, .int x4)] → W p l e rmX4_addEight s m args below meth c H locs 0 0 (MQ below (Qv D (Ky κ) (cw κ η n) A Q) args s 0 0 A) (F0 m 41 ls [.int s0]) := by
  intro M x1 x3 x4 s0 H locs ls h hw hl
  refine lv_istore (lv' := [(5, .int s0), (0, .ref (η 3)), (1, .long x1), (3, .int x3), (4, .int x4)]) X.1 X.2.1 dX4_addEight_41 hl (by decide) rfl (fun ls hl => ?_)
  refine lv_iload X.1 X.2.1 dX4_addEight_43 (lv_at hl 0 rfl) ?_
  obtain ⟨ht_, hf_⟩ := h
  refine lv_if_eq (tgt := 80) X.1 X.2.1 dX4_addEight_45 (by decide) (fun c_ => ?_) (fun c_ => ?_)
  · have h := ht_ c_
    exact bX4_addEight_80 X hr hlk hK3 M x1 x3 _ _ _ h hw (lv_sub hl [1, 2, 3] rfl)
  · have h := hf_ c_
    refine lv_aload_n X.1 X.2.1 dX4_addEight_48 rfl (lv_at hl 1 rfl) ?_
    refine r_gf X inX4_addEight_X4 hw 3 rfl rfl 1 (by decide) (X.2.2.2.2 (.fieldLink RX4 19 "TestHall$Tape" "length" "I") (by decide +kernel)) rfl rfl dX4_addEight_49 ?_
    refine lv_sipush (v := (600 : Int32)) X.1 X.2.1 dX4_addEight_52 (by decide) ?_
    obtain ⟨ht_, hf_⟩ := h
    refine lv_icmp_ge (tgt := 80) X.1 X.2.1 dX4_addEight_55 (by decide) (fun c_ => ?_) (fun c_ => ?_)
    · have h := ht_ c_
      exact bX4_addEight_80 X hr hlk hK3 M x1 x3 _ _ _ h hw (lv_sub hl [1, 2, 3] rfl)
    · have h := hf_ c_
      refine lv_aload_n X.1 X.2.1 dX4_addEight_58 rfl (lv_at hl 1 rfl) ?_
      refine r_gf X inX4_addEight_X4 hw 3 rfl rfl 0 (by decide) (X.2.2.2.2 (.fieldLink RX4 9 "TestHall$Tape" "signs" "[C") (by decide +kernel)) rfl rfl dX4_addEight_59 ?_
      refine lv_aload_n X.1 X.2.1 dX4_addEight_62 rfl (lv_at hl 1 rfl) ?_
      refine r_gf X inX4_addEight_X4 hw 3 rfl rfl 1 (by decide) (X.2.2.2.2 (.fieldLink RX4 19 "TestHall$Tape" "length" "I") (by decide +kernel)) rfl rfl dX4_addEight_63 ?_
      refine lv_iload X.1 X.2.1 dX4_addEight_66 (lv_at hl 4 rfl) ?_
      refine lv_i2c (v := (x4.toUInt32 % 65536).toInt32) X.1 X.2.1 dX4_addEight_68 rfl ?_
      obtain ⟨hi_, h⟩ := h
      refine r_cas (w' := cw κ η n (sA M 8 (gI M 14).toNatClampNeg (vp_nar .char ((x4.toUInt32 % 65536).toInt32)))) X hw 17 2 rfl rfl hi_ rfl dX4_addEight_69 (fun H locs hw => ?_)
      obtain ⟨M_1, eM_1⟩ : ∃ y : Sg, y = sA M 8 (gI M 14).toNatClampNeg (vp_nar .char ((x4.toUInt32 % 65536).toInt32)) := ⟨_, rfl⟩
      rw [← eM_1] at hw
      have h := h M_1 eM_1
      refine lv_aload_n X.1 X.2.1 dX4_addEight_70 rfl (lv_at hl 1 rfl) ?_
      refine lv_dup X.1 X.2.1 dX4_addEight_71 rfl ?_
      refine r_gf X inX4_addEight_X4 hw 3 rfl rfl 1 (by decide) (X.2.2.2.2 (.fieldLink RX4 19 "TestHall$Tape" "length" "I") (by decide +kernel)) rfl rfl dX4_addEight_72 ?_
      refine lv_iconst (v := (1 : Int32)) X.1 X.2.1 dX4_addEight_75 (by decide) ?_
      refine lv_iadd X.1 X.2.1 dX4_addEight_76 ?_
      refine r_pf (ty := .int) (w' := cw κ η n (sI M_1 14 ((gI M_1 14) + (1 : Int32)))) X inX4_addEight_X4 tyX4_ok nmX4 hw 3 rfl rfl 1 (by decide) (X.2.2.2.2 (.fieldLink RX4 19 "TestHall$Tape" "length" "I") (by decide +kernel)) rfl rfl (by decide +kernel) rfl rfl (Nat.le_of_ble_eq_true rfl) rfl dX4_addEight_77 (fun H locs hw => ?_)
      obtain ⟨M_2, eM_2⟩ : ∃ y : Sg, y = sI M_1 14 ((gI M_1 14) + (1 : Int32)) := ⟨_, rfl⟩
      rw [← eM_2] at hw
      have h := h M_2 eM_2
      exact bX4_addEight_80 X hr hlk hK3 M_2 x1 x3 _ _ _ h hw (lv_sub hl [1, 2, 3] rfl)
def vX4_addEight_36 (n : Nat) (K3 : Sg → Int64 → Int32 → Prop) (Q : Sg → Prop) (M : Sg) (x1 : Int64) (x3 : Int32) (x4 : Int32) : Prop := (vX4_addEight_41 n K3 Q M x1 x3 x4 (1 : Int32))
set_option maxHeartbeats 4000000 in
set_option maxRecDepth 100000 in
theorem bX4_addEight_36 {p : Program} {l : Launch} {e : Env} {s : State} {m : MethodId} {args : Array Value} {below : List Frame} {meth : Method} {c : Code} {D : va_G} {κ : Nat → ClassId} {η : Nat → Nat} {σ : (Nat → Nat) × (Nat → Nat)} {A : Nat → Prop} {n : Nat} {Q : Sg → Prop} {K3 : Sg → Int64 → Int32 → Prop} (X : CallFix p m c cX4_addEight 6 s args wsX4_addEight RX4) (hr : meth.sig.returnType = none) (hlk : meth.locks = false) (hK3 : ∀ (M : Sg) (x1 : Int64) (x3 : Int32) (H : Heap) (locs : List Loc) (ls : Array Slot), K3 M x1 x3 → Wd (cN σ) D (Ky κ) A s (cw κ η n M) H locs → lv_has ls 6 [(0, .ref (η 3)), (1, .long x1), (3, .int x3)] → W p l e rmX4_addEight s m args below meth c H locs 0 0 (MQ below (Qv D (Ky κ) (cw κ η n) A Q) args s 0 0 A) (F0 m 3 ls [])) : ∀ (M : Sg) (x1 : Int64) (x3 : Int32) (x4 : Int32) (H : Heap) (locs : List Loc) (ls : Array Slot), vX4_addEight_36 n K3 Q M x1 x3 x4 → Wd (cN σ) D (Ky κ) A s (cw κ η n M) H locs → lv_has ls 6 [(0, .ref (η 3)), (1, .long x1), (3, .int x3), (4, .int x4)] → W p l e rmX4_addEight s m args below meth c H locs 0 0 (MQ below (Qv D (Ky κ) (cw κ η n) A Q) args s 0 0 A) (F0 m 36 ls []) := by
  intro M x1 x3 x4 H locs ls h hw hl
  refine lv_iconst (v := (1 : Int32)) X.1 X.2.1 dX4_addEight_36 (by decide) ?_
  refine lv_goto (tgt := 41) X.1 X.2.1 dX4_addEight_37 (by decide) ?_
  exact bX4_addEight_41 X hr hlk hK3 M x1 x3 x4 (1 : Int32) _ _ _ h hw (lv_sub hl [0, 1, 2, 3] rfl)
def vX4_addEight_3 (n : Nat) (Q : Sg → Prop) : Nat → Sg → Int64 → Int32 → Prop
  | 0, _, _, _ => False
  | f3_ + 1, M, x1, x3 => ((x3 < 0 → (Q M)) ∧ (¬ x3 < 0 → (∀ (x_1 : Int32), x_1 = (((x1.toUInt64 >>> (x3.toInt64.toUInt64 &&& Int64.toUInt64 63)).toInt64).toInt32 &&& (255 : Int32)) → ((x_1 = (10 : Int32) → (vX4_addEight_36 n (vX4_addEight_3 n Q f3_) Q M x1 x3 x_1)) ∧ (¬ x_1 = (10 : Int32) → (wX8_isWithin n M x_1 (32 : Int32) (126 : Int32) (fun M_2 r_3 => ((r_3 = 0 → (vX4_addEight_41 n (vX4_addEight_3 n Q f3_) Q M_2 x1 x3 x_1 (0 : Int32))) ∧ (¬ r_3 = 0 → (vX4_addEight_36 n (vX4_addEight_3 n Q f3_) Q M_2 x1 x3 x_1))))))))))
set_option maxHeartbeats 4000000 in
set_option maxRecDepth 100000 in
theorem bX4_addEight_3 {p : Program} {l : Launch} {e : Env} {s : State} {m : MethodId} {args : Array Value} {below : List Frame} {meth : Method} {c : Code} {D : va_G} {κ : Nat → ClassId} {η : Nat → Nat} {σ : (Nat → Nat) × (Nat → Nat)} {A : Nat → Prop} {n : Nat} {Q : Sg → Prop} (X : CallFix p m c cX4_addEight 6 s args wsX4_addEight RX4) (hr : meth.sig.returnType = none) (hlk : meth.locks = false) : ∀ (f_ : Nat) (M : Sg) (x1 : Int64) (x3 : Int32) (H : Heap) (locs : List Loc) (ls : Array Slot), vX4_addEight_3 n Q f_ M x1 x3 → Wd (cN σ) D (Ky κ) A s (cw κ η n M) H locs → lv_has ls 6 [(0, .ref (η 3)), (1, .long x1), (3, .int x3)] → W p l e rmX4_addEight s m args below meth c H locs 0 0 (MQ below (Qv D (Ky κ) (cw κ η n) A Q) args s 0 0 A) (F0 m 3 ls []) := by
  intro f_
  induction f_ with
  | zero => intro M x1 x3 H locs ls h; exact h.elim
  | succ f_ hK3 =>
    intro M x1 x3 H locs ls h hw hl
    refine lv_iload_n X.1 X.2.1 dX4_addEight_3 rfl (lv_at hl 2 rfl) ?_
    obtain ⟨ht_, hf_⟩ := h
    refine lv_if_lt (tgt := 86) X.1 X.2.1 dX4_addEight_4 (by decide) (fun c_ => ?_) (fun c_ => ?_)
    · have h := ht_ c_
      exact r_vret X hr hlk hw h dX4_addEight_86
    · have h := hf_ c_
      refine lv_lload_n X.1 X.2.1 dX4_addEight_7 rfl (lv_at hl 1 rfl) ?_
      refine lv_iload_n X.1 X.2.1 dX4_addEight_8 rfl (lv_at hl 2 rfl) ?_
      refine lv_lushr (v := (x1.toUInt64 >>> (x3.toInt64.toUInt64 &&& Int64.toUInt64 63)).toInt64) X.1 X.2.1 dX4_addEight_9 rfl ?_
      refine lv_l2i (v := ((x1.toUInt64 >>> (x3.toInt64.toUInt64 &&& Int64.toUInt64 63)).toInt64).toInt32) X.1 X.2.1 dX4_addEight_10 rfl ?_
      refine lv_sipush (v := (255 : Int32)) X.1 X.2.1 dX4_addEight_11 (by decide) ?_
      refine lv_iand X.1 X.2.1 dX4_addEight_14 ?_
      refine lv_topi (fun x_1 ex_1 => ?_)
      have h := h x_1 ex_1
      refine lv_istore (lv' := [(4, .int x_1), (0, .ref (η 3)), (1, .long x1), (3, .int x3)]) X.1 X.2.1 dX4_addEight_15 hl (by decide) rfl (fun ls hl => ?_)
      refine lv_iload X.1 X.2.1 dX4_addEight_17 (lv_at hl 0 rfl) ?_
      refine lv_bipush (v := (10 : Int32)) X.1 X.2.1 dX4_addEight_19 (by decide) ?_
      obtain ⟨ht_, hf_⟩ := h
      refine lv_icmp_eq (tgt := 36) X.1 X.2.1 dX4_addEight_21 (by decide) (fun c_ => ?_) (fun c_ => ?_)
      · have h := ht_ c_
        exact bX4_addEight_36 X hr hlk hK3 M x1 x3 x_1 _ _ _ h hw (lv_sub hl [1, 2, 3, 0] rfl)
      · have h := hf_ c_
        refine lv_iload X.1 X.2.1 dX4_addEight_24 (lv_at hl 0 rfl) ?_
        refine lv_bipush (v := (32 : Int32)) X.1 X.2.1 dX4_addEight_26 (by decide) ?_
        refine lv_bipush (v := (126 : Int32)) X.1 X.2.1 dX4_addEight_28 (by decide) ?_
        refine r_SNi (As := [.int x_1, .int (32 : Int32), .int (126 : Int32)]) (rest := []) X cN_ok (kX8_isWithin h) ⟨va_cnB 3 X.2.2.2.2 gX4_addEight_X8_isWithin_n13 rfl rfl rfl (cN_X4_13 hw.2.2.2.2.2) (X.2.2.2.2 _ (by decide +kernel)) (by decide +kernel) ⟨Nat.le_of_ble_eq_true rfl, Nat.le_of_ble_eq_true rfl⟩, X.2.2.2.2 _ (by decide +kernel), trivial⟩ hw rfl hl.1 rfl (Nat.le_of_ble_eq_true rfl) dX4_addEight_30 (fun r_3 M_2 H locs h hw => ?_)
        obtain ⟨ht_, hf_⟩ := h
        refine lv_if_eq (tgt := 40) X.1 X.2.1 dX4_addEight_33 (by decide) (fun c_ => ?_) (fun c_ => ?_)
        · have h := ht_ c_
          refine lv_iconst (v := (0 : Int32)) X.1 X.2.1 dX4_addEight_40 (by decide) ?_
          exact bX4_addEight_41 X hr hlk hK3 M_2 x1 x3 x_1 (0 : Int32) _ _ _ h hw (lv_sub hl [1, 2, 3, 0] rfl)
        · have h := hf_ c_
          exact bX4_addEight_36 X hr hlk hK3 M_2 x1 x3 x_1 _ _ _ h hw (lv_sub hl [1, 2, 3, 0] rfl)
def wX4_addEight (n : Nat) (M : Sg) (a1 : Int64) (Q : Sg → Prop) : Prop := (∃ g3_ : Nat, vX4_addEight_3 n Q g3_ M a1 (56 : Int32))
set_option maxHeartbeats 4000000 in
set_option maxRecDepth 100000 in
theorem kX4_addEight {l : Launch} {D : va_G} {κ : Nat → ClassId} {η : Nat → Nat} {σ : (Nat → Nat) × (Nat → Nat)} {n : Nat} {M : Sg} {a1 : Int64} {Q : Sg → Prop} (h : wX4_addEight n M a1 Q) : Kv (cN σ) D (Ky κ) (cw κ η n) l yX4_addEight wsX4_addEight rmX4_addEight [.ref (η 3), .long a1] M Q := by
  refine ofW_g (Qc := fun A => Qv D (Ky κ) (cw κ η n) A Q) (cc := cX4_addEight) (maxL := 6) (ret := none) (by decide) rfl (Nat.le_of_ble_eq_true rfl) ?_
  intro p e s m args below meth c A ls X hr hlk hw hl
  have hl : lv_has ls 6 [(0, .ref (η 3)), (1, .long a1)] := hl
  refine lv_bipush (v := (56 : Int32)) X.1 X.2.1 dX4_addEight_0 (by decide) ?_
  refine lv_istore_n (lv' := [(3, .int (56 : Int32)), (0, .ref (η 3)), (1, .long a1)]) X.1 X.2.1 dX4_addEight_2 rfl hl (by decide) rfl (fun ls hl => ?_)
  obtain ⟨f_, h⟩ := h
  exact bX4_addEight_3 X hr hlk f_ M a1 (56 : Int32) _ _ _ h hw (lv_sub hl [1, 2, 0] rfl)
