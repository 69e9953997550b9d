theorem inX9_ends_X9 : ∀ w ∈ wsX90, w ∈ wsX9_ends := fun w h => List.mem_cons_of_mem _ (List.mem_append_right _ h)
abbrev rmX9_ends : Room := { frames := 0, cells := 0, slots := 0, locals := 0 }
def vX9_ends_90 (Q : Sg → Prop) (M : Sg) : Prop := (∀ (M_1 : Sg), M_1 = sI M 59 ((gI M 59) + (1 : Int32)) → (Q M_1))
set_option maxHeartbeats 4000000 in
set_option maxRecDepth 100000 in
theorem bX9_ends_90 {p : Program} {l : Launch} {e : Env} {s : State} {m : MethodId} {args : Array Value} {below : List Frame} {meth : Method} {c : Code} {D : va_G} {κ : Nat → ClassId} {η : Nat → Nat} {σ : (Nat → Nat) × (Nat → Nat)} {A : Nat → Prop} {Q : Sg → Prop} (X : CallFix p m c cX9_ends 4 s args wsX9_ends RX9) (hr : meth.sig.returnType = none) (hlk : meth.locks = false) : ∀ (M : Sg) (H : Heap) (locs : List Loc) (ls : Array Slot), vX9_ends_90 Q M → Wd (cN σ) D (Ky κ) A s (mw κ η M) H locs → lv_has ls 4 [(0, .ref (η 0))] → W p l e rmX9_ends s m args below meth c H locs 0 0 (MQ below (Qv D (Ky κ) (mw κ η) A Q) args s 0 0 A) (F0 m 90 ls []) := by
  intro M H locs ls h hw hl
  refine lv_aload_n X.1 X.2.1 dX9_ends_90 rfl (lv_at hl 0 rfl) ?_
  refine lv_dup X.1 X.2.1 dX9_ends_91 rfl ?_
  refine r_gf X inX9_ends_X9 hw 0 rfl rfl 59 (by decide) (X.2.2.2.2 (.fieldLink RX9 336 "TestHallModel" "found" "I") (by decide +kernel)) rfl rfl dX9_ends_92 ?_
  refine lv_iconst (v := (1 : Int32)) X.1 X.2.1 dX9_ends_95 (by decide) ?_
  refine lv_iadd X.1 X.2.1 dX9_ends_96 ?_
  refine r_pf (ty := .int) (w' := mw κ η (sI M 59 ((gI M 59) + (1 : Int32)))) X inX9_ends_X9 tyX9_ok nmX9 hw 0 rfl rfl 59 (by decide) (X.2.2.2.2 (.fieldLink RX9 336 "TestHallModel" "found" "I") (by decide +kernel)) rfl rfl (by decide +kernel) rfl rfl (Nat.le_of_ble_eq_true rfl) rfl dX9_ends_97 (fun H locs hw => ?_)
  obtain ⟨M_1, eM_1⟩ : ∃ y : Sg, y = sI M 59 ((gI M 59) + (1 : Int32)) := ⟨_, rfl⟩
  rw [← eM_1] at hw
  have h := h M_1 eM_1
  exact r_vret X hr hlk hw h dX9_ends_100
def vX9_ends_64 (Q : Sg → Prop) : Nat → Sg → Int32 → Prop
  | 0, _, _ => False
  | f64_ + 1, M, x3 => (((gI M 53) ≤ x3 → (vX9_ends_90 Q M)) ∧ (¬ (gI M 53) ≤ x3 → (vp_in x3 8 ∧ (vp_in x3 8 ∧ (∀ (M_1 : Sg), M_1 = sA M 54 x3.toNatClampNeg (gA M 52 x3.toNatClampNeg) → (∀ (x_2 : Int32), x_2 = x3 + (1 : Int32) → (vX9_ends_64 Q f64_ M_1 x_2)))))))
set_option maxHeartbeats 4000000 in
set_option maxRecDepth 100000 in
theorem bX9_ends_64 {p : Program} {l : Launch} {e : Env} {s : State} {m : MethodId} {args : Array Value} {below : List Frame} {meth : Method} {c : Code} {D : va_G} {κ : Nat → ClassId} {η : Nat → Nat} {σ : (Nat → Nat) × (Nat → Nat)} {A : Nat → Prop} {Q : Sg → Prop} (X : CallFix p m c cX9_ends 4 s args wsX9_ends RX9) (hr : meth.sig.returnType = none) (hlk : meth.locks = false) : ∀ (f_ : Nat) (M : Sg) (x3 : Int32) (H : Heap) (locs : List Loc) (ls : Array Slot), vX9_ends_64 Q f_ M x3 → Wd (cN σ) D (Ky κ) A s (mw κ η M) H locs → lv_has ls 4 [(0, .ref (η 0)), (3, .int x3)] → W p l e rmX9_ends s m args below meth c H locs 0 0 (MQ below (Qv D (Ky κ) (mw κ η) A Q) args s 0 0 A) (F0 m 64 ls []) := by
  intro f_
  induction f_ with
  | zero => intro M x3 H locs ls h; exact h.elim
  | succ f_ hK64 =>
    intro M x3 H locs ls h hw hl
    refine lv_iload_n X.1 X.2.1 dX9_ends_64 rfl (lv_at hl 1 rfl) ?_
    refine lv_aload_n X.1 X.2.1 dX9_ends_65 rfl (lv_at hl 0 rfl) ?_
    refine r_gf X inX9_ends_X9 hw 0 rfl rfl 53 (by decide) (X.2.2.2.2 (.fieldLink RX9 317 "TestHallModel" "wayMany" "I") (by decide +kernel)) rfl rfl dX9_ends_66 ?_
    obtain ⟨ht_, hf_⟩ := h
    refine lv_icmp_ge (tgt := 90) X.1 X.2.1 dX9_ends_69 (by decide) (fun c_ => ?_) (fun c_ => ?_)
    · have h := ht_ c_
      exact bX9_ends_90 X hr hlk M _ _ _ h hw (lv_sub hl [0] rfl)
    · have h := hf_ c_
      refine lv_aload_n X.1 X.2.1 dX9_ends_72 rfl (lv_at hl 0 rfl) ?_
      refine r_gf X inX9_ends_X9 hw 0 rfl rfl 54 (by decide) (X.2.2.2.2 (.fieldLink RX9 158 "TestHallModel" "drawn" "[I") (by decide +kernel)) rfl rfl dX9_ends_73 ?_
      refine lv_iload_n X.1 X.2.1 dX9_ends_76 rfl (lv_at hl 1 rfl) ?_
      refine lv_aload_n X.1 X.2.1 dX9_ends_77 rfl (lv_at hl 0 rfl) ?_
      refine r_gf X inX9_ends_X9 hw 0 rfl rfl 52 (by decide) (X.2.2.2.2 (.fieldLink RX9 155 "TestHallModel" "way" "[I") (by decide +kernel)) rfl rfl dX9_ends_78 ?_
      refine lv_iload_n X.1 X.2.1 dX9_ends_81 rfl (lv_at hl 1 rfl) ?_
      obtain ⟨hi_, h⟩ := h
      refine r_ial X hw 39 0 rfl rfl hi_ dX9_ends_82 ?_
      obtain ⟨hi_, h⟩ := h
      refine r_ias (w' := mw κ η (sA M 54 x3.toNatClampNeg (gA M 52 x3.toNatClampNeg))) X hw 40 0 rfl rfl hi_ rfl dX9_ends_83 (fun H locs hw => ?_)
      obtain ⟨M_1, eM_1⟩ : ∃ y : Sg, y = sA M 54 x3.toNatClampNeg (gA M 52 x3.toNatClampNeg) := ⟨_, rfl⟩
      rw [← eM_1] at hw
      have h := h M_1 eM_1
      obtain ⟨x_2, ex_2⟩ : ∃ y : Int32, y = x3 + (1 : Int32) := ⟨_, rfl⟩
      have h := h x_2 ex_2
      refine lv_iinc (v := x_2) (lv' := [(3, .int x_2), (0, .ref (η 0))]) X.1 X.2.1 dX9_ends_84 hl (k := 1) rfl (by rw [ex_2]; rfl) (by decide) rfl (fun ls hl => ?_)
      refine lv_goto (tgt := 64) X.1 X.2.1 dX9_ends_87 (by decide) ?_
      exact hK64 M_1 x_2 _ _ _ h hw (lv_sub hl [1, 0] rfl)
def wX9_ends (M : Sg) (a1 : Int32) (a2 : Int32) (Q : Sg → Prop) : Prop := (((gI M 53) < (2 : Int32) → (Q M)) ∧ (¬ (gI M 53) < (2 : Int32) → ((a1 < (gI M 56) → (Q M)) ∧ (¬ a1 < (gI M 56) → (((gI M 57) < a1 → (Q M)) ∧ (¬ (gI M 57) < a1 → (((a2 &&& (gI M 58)) = (gI M 58) → ((¬ (gI M 59) = (gI M 60) → (vX9_ends_90 Q M)) ∧ ((gI M 59) = (gI M 60) → (∀ (M_1 : Sg), M_1 = sI M 55 (gI M 53) → (∀ (M_2 : Sg), M_2 = sI M_1 61 a1 → (∃ g64_ : Nat, vX9_ends_64 Q g64_ M_2 (0 : Int32))))))) ∧ (¬ (a2 &&& (gI M 58)) = (gI M 58) → (Q M)))))))))
set_option maxHeartbeats 4000000 in
set_option maxRecDepth 100000 in
theorem kX9_ends {l : Launch} {D : va_G} {κ : Nat → ClassId} {η : Nat → Nat} {σ : (Nat → Nat) × (Nat → Nat)} {M : Sg} {a1 : Int32} {a2 : Int32} {Q : Sg → Prop} (h : wX9_ends M a1 a2 Q) : Kv (cN σ) D (Ky κ) (mw κ η) l yX9_ends wsX9_ends rmX9_ends [.ref (η 0), .int a1, .int a2] M Q := by
  refine ofW_g (Qc := fun A => Qv D (Ky κ) (mw κ η) A Q) (cc := cX9_ends) (maxL := 4) (ret := none) (by decide) rfl (Nat.le_of_ble_eq_true rfl) ?_
  intro p e s m args below meth c A ls X hr hlk hw hl
  have hl : lv_has ls 4 [(0, .ref (η 0)), (1, .int a1), (2, .int a2)] := hl
  refine lv_aload_n X.1 X.2.1 dX9_ends_0 rfl (lv_at hl 0 rfl) ?_
  refine r_gf X inX9_ends_X9 hw 0 rfl rfl 53 (by decide) (X.2.2.2.2 (.fieldLink RX9 317 "TestHallModel" "wayMany" "I") (by decide +kernel)) rfl rfl dX9_ends_1 ?_
  refine lv_iconst (v := (2 : Int32)) X.1 X.2.1 dX9_ends_4 (by decide) ?_
  obtain ⟨ht_, hf_⟩ := h
  refine lv_icmp_lt (tgt := 37) X.1 X.2.1 dX9_ends_5 (by decide) (fun c_ => ?_) (fun c_ => ?_)
  · have h := ht_ c_
    exact r_vret X hr hlk hw h dX9_ends_37
  · have h := hf_ c_
    refine lv_iload_n X.1 X.2.1 dX9_ends_8 rfl (lv_at hl 1 rfl) ?_
    refine lv_aload_n X.1 X.2.1 dX9_ends_9 rfl (lv_at hl 0 rfl) ?_
    refine r_gf X inX9_ends_X9 hw 0 rfl rfl 56 (by decide) (X.2.2.2.2 (.fieldLink RX9 327 "TestHallModel" "wantLeast" "I") (by decide +kernel)) rfl rfl dX9_ends_10 ?_
    obtain ⟨ht_, hf_⟩ := h
    refine lv_icmp_lt (tgt := 37) X.1 X.2.1 dX9_ends_13 (by decide) (fun c_ => ?_) (fun c_ => ?_)
    · have h := ht_ c_
      exact r_vret X hr hlk hw h dX9_ends_37
    · have h := hf_ c_
      refine lv_iload_n X.1 X.2.1 dX9_ends_16 rfl (lv_at hl 1 rfl) ?_
      refine lv_aload_n X.1 X.2.1 dX9_ends_17 rfl (lv_at hl 0 rfl) ?_
      refine r_gf X inX9_ends_X9 hw 0 rfl rfl 57 (by decide) (X.2.2.2.2 (.fieldLink RX9 330 "TestHallModel" "wantMost" "I") (by decide +kernel)) rfl rfl dX9_ends_18 ?_
      obtain ⟨ht_, hf_⟩ := h
      refine lv_icmp_gt (tgt := 37) X.1 X.2.1 dX9_ends_21 (by decide) (fun c_ => ?_) (fun c_ => ?_)
      · have h := ht_ c_
        exact r_vret X hr hlk hw h dX9_ends_37
      · have h := hf_ c_
        refine lv_iload_n X.1 X.2.1 dX9_ends_24 rfl (lv_at hl 2 rfl) ?_
        refine lv_aload_n X.1 X.2.1 dX9_ends_25 rfl (lv_at hl 0 rfl) ?_
        refine r_gf X inX9_ends_X9 hw 0 rfl rfl 58 (by decide) (X.2.2.2.2 (.fieldLink RX9 333 "TestHallModel" "wantMarks" "I") (by decide +kernel)) rfl rfl dX9_ends_26 ?_
        refine lv_iand X.1 X.2.1 dX9_ends_29 ?_
        refine lv_aload_n X.1 X.2.1 dX9_ends_30 rfl (lv_at hl 0 rfl) ?_
        refine r_gf X inX9_ends_X9 hw 0 rfl rfl 58 (by decide) (X.2.2.2.2 (.fieldLink RX9 333 "TestHallModel" "wantMarks" "I") (by decide +kernel)) rfl rfl dX9_ends_31 ?_
        obtain ⟨ht_, hf_⟩ := h
        refine lv_icmp_eq (tgt := 38) X.1 X.2.1 dX9_ends_34 (by decide) (fun c_ => ?_) (fun c_ => ?_)
        · have h := ht_ c_
          refine lv_aload_n X.1 X.2.1 dX9_ends_38 rfl (lv_at hl 0 rfl) ?_
          refine r_gf X inX9_ends_X9 hw 0 rfl rfl 59 (by decide) (X.2.2.2.2 (.fieldLink RX9 336 "TestHallModel" "found" "I") (by decide +kernel)) rfl rfl dX9_ends_39 ?_
          refine lv_aload_n X.1 X.2.1 dX9_ends_42 rfl (lv_at hl 0 rfl) ?_
          refine r_gf X inX9_ends_X9 hw 0 rfl rfl 60 (by decide) (X.2.2.2.2 (.fieldLink RX9 339 "TestHallModel" "wanted" "I") (by decide +kernel)) rfl rfl dX9_ends_43 ?_
          obtain ⟨ht_, hf_⟩ := h
          refine lv_icmp_ne (tgt := 90) X.1 X.2.1 dX9_ends_46 (by decide) (fun c_ => ?_) (fun c_ => ?_)
          · have h := ht_ c_
            exact bX9_ends_90 X hr hlk M _ _ _ h hw (lv_sub hl [0] rfl)
          · have h := hf_ c_
            refine lv_aload_n X.1 X.2.1 dX9_ends_49 rfl (lv_at hl 0 rfl) ?_
            refine lv_aload_n X.1 X.2.1 dX9_ends_50 rfl (lv_at hl 0 rfl) ?_
            refine r_gf X inX9_ends_X9 hw 0 rfl rfl 53 (by decide) (X.2.2.2.2 (.fieldLink RX9 317 "TestHallModel" "wayMany" "I") (by decide +kernel)) rfl rfl dX9_ends_51 ?_
            refine r_pf (ty := .int) (w' := mw κ η (sI M 55 (gI M 53))) X inX9_ends_X9 tyX9_ok nmX9 hw 0 rfl rfl 55 (by decide) (X.2.2.2.2 (.fieldLink RX9 342 "TestHallModel" "drawnMany" "I") (by decide +kernel)) rfl rfl (by decide +kernel) rfl rfl (Nat.le_of_ble_eq_true rfl) rfl dX9_ends_54 (fun H locs hw => ?_)
            obtain ⟨M_1, eM_1⟩ : ∃ y : Sg, y = sI M 55 (gI M 53) := ⟨_, rfl⟩
            rw [← eM_1] at hw
            have h := h M_1 eM_1
            refine lv_aload_n X.1 X.2.1 dX9_ends_57 rfl (lv_at hl 0 rfl) ?_
            refine lv_iload_n X.1 X.2.1 dX9_ends_58 rfl (lv_at hl 1 rfl) ?_
            refine r_pf (ty := .int) (w' := mw κ η (sI M_1 61 a1)) X inX9_ends_X9 tyX9_ok nmX9 hw 0 rfl rfl 61 (by decide) (X.2.2.2.2 (.fieldLink RX9 345 "TestHallModel" "drawnMinutes" "I") (by decide +kernel)) rfl rfl (by decide +kernel) rfl rfl (Nat.le_of_ble_eq_true rfl) rfl dX9_ends_59 (fun H locs hw => ?_)
            obtain ⟨M_2, eM_2⟩ : ∃ y : Sg, y = sI M_1 61 a1 := ⟨_, rfl⟩
            rw [← eM_2] at hw
            have h := h M_2 eM_2
            refine lv_iconst (v := (0 : Int32)) X.1 X.2.1 dX9_ends_62 (by decide) ?_
            refine lv_istore_n (lv' := [(3, .int (0 : Int32)), (0, .ref (η 0)), (1, .int a1), (2, .int a2)]) X.1 X.2.1 dX9_ends_63 rfl hl (by decide) rfl (fun ls hl => ?_)
            obtain ⟨f_, h⟩ := h
            exact bX9_ends_64 X hr hlk f_ M_2 (0 : Int32) _ _ _ h hw (lv_sub hl [1, 0] rfl)
        · have h := hf_ c_
          exact r_vret X hr hlk hw h dX9_ends_37

theorem inX9_goes_X9 : ∀ w ∈ wsX90, w ∈ wsX9_goes := fun w h => List.mem_cons_of_mem _ (List.mem_append_right _ h)
def vX9_goes_178 (W_ : Sg → Int32 → Int32 → Int32 → (Sg → Prop) → Prop) (K21 : Sg → Int32 → Int32 → Int32 → Int32 → Prop) (Q : Sg → Prop) (M : Sg) (x1 : Int32) (x2 : Int32) (x3 : Int32) (x4 : Int32) : Prop := (∀ (x_1 : Int32), x_1 = x4 + (1 : Int32) → (K21 M x1 x2 x3 x_1))
set_option maxHeartbeats 4000000 in
set_option maxRecDepth 100000 in
theorem bX9_goes_178 {p : Program} {l : Launch} {e : Env} {s : State} {m : MethodId} {args : Array Value} {below : List Frame} {meth : Method} {c : Code} {D : va_G} {κ : Nat → ClassId} {η : Nat → Nat} {σ : (Nat → Nat) × (Nat → Nat)} {A : Nat → Prop} {Q : Sg → Prop} {d_ : Nat} {W_ : Sg → Int32 → Int32 → Int32 → (Sg → Prop) → Prop} (IH_ : ∀ {M : Sg} {b0 b1 b2 : Int32} {Q : Sg → Prop}, W_ M b0 b1 b2 Q → Kv (cN σ) D (Ky κ) (mw κ η) l yX9_goes wsX9_goes (rmX9_goes d_) [.ref (η 0), .int b0, .int b1, .int b2] M Q) {K21 : Sg → Int32 → Int32 → Int32 → Int32 → Prop} (X : CallFix p m c cX9_goes 5 s args wsX9_goes RX9) (hr : meth.sig.returnType = none) (hlk : meth.locks = false) (hK21 : ∀ (M : Sg) (x1 : Int32) (x2 : Int32) (x3 : Int32) (x4 : Int32) (H : Heap) (locs : List Loc) (ls : Array Slot), K21 M x1 x2 x3 x4 → Wd (cN σ) D (Ky κ) A s (mw κ η M) H locs → lv_has ls 5 [(0, .ref (η 0)), (1, .int x1), (2, .int x2), (3, .int x3), (4, .int x4)] → W p l e (rmX9_goes (d_ + 1)) s m args below meth c H locs 0 0 (MQ below (Qv D (Ky κ) (mw κ η) A Q) args s 0 0 A) (F0 m 21 ls [])) : ∀ (M : Sg) (x1 : Int32) (x2 : Int32) (x3 : Int32) (x4 : Int32) (H : Heap) (locs : List Loc) (ls : Array Slot), vX9_goes_178 W_ K21 Q M x1 x2 x3 x4 → Wd (cN σ) D (Ky κ) A s (mw κ η M) H locs → lv_has ls 5 [(0, .ref (η 0)), (1, .int x1), (2, .int x2), (3, .int x3), (4, .int x4)] → W p l e (rmX9_goes (d_ + 1)) s m args below meth c H locs 0 0 (MQ below (Qv D (Ky κ) (mw κ η) A Q) args s 0 0 A) (F0 m 178 ls []) := by
  intro M x1 x2 x3 x4 H locs ls h hw hl
  obtain ⟨x_1, ex_1⟩ : ∃ y : Int32, y = x4 + (1 : Int32) := ⟨_, rfl⟩
  have h := h x_1 ex_1
  refine lv_iinc (v := x_1) (lv' := [(4, .int x_1), (0, .ref (η 0)), (1, .int x1), (2, .int x2), (3, .int x3)]) X.1 X.2.1 dX9_goes_178 hl (k := 4) rfl (by rw [ex_1]; rfl) (by decide) rfl (fun ls hl => ?_)
  refine lv_goto (tgt := 21) X.1 X.2.1 dX9_goes_181 (by decide) ?_
  exact hK21 M x1 x2 x3 x_1 _ _ _ h hw (lv_sub hl [1, 2, 3, 4, 0] rfl)
def vX9_goes_139 (W_ : Sg → Int32 → Int32 → Int32 → (Sg → Prop) → Prop) (K21 : Sg → Int32 → Int32 → Int32 → Int32 → Prop) (Q : Sg → Prop) (M : Sg) (x1 : Int32) (x2 : Int32) (x3 : Int32) (x4 : Int32) (s0 : Int32) : Prop := (vp_in x4 24 ∧ (vp_in x4 24 ∧ (W_ M s0 (x2 + (gA M 48 x4.toNatClampNeg)) (x3 ||| (gA M 49 x4.toNatClampNeg)) (fun M_1 => (∀ (M_3 : Sg), M_3 = sI M_1 53 ((gI M_1 53) - (1 : Int32)) → (vp_in x4 24 ∧ (∀ (M_4 : Sg), M_4 = sA M_3 51 x4.toNatClampNeg (vp_nar .boolean (0 : Int32)) → (vX9_goes_178 W_ K21 Q M_4 x1 x2 x3 x4))))))))
set_option maxHeartbeats 4000000 in
set_option maxRecDepth 100000 in
theorem bX9_goes_139 {p : Program} {l : Launch} {e : Env} {s : State} {m : MethodId} {args : Array Value} {below : List Frame} {meth : Method} {c : Code} {D : va_G} {κ : Nat → ClassId} {η : Nat → Nat} {σ : (Nat → Nat) × (Nat → Nat)} {A : Nat → Prop} {Q : Sg → Prop} {d_ : Nat} {W_ : Sg → Int32 → Int32 → Int32 → (Sg → Prop) → Prop} (IH_ : ∀ {M : Sg} {b0 b1 b2 : Int32} {Q : Sg → Prop}, W_ M b0 b1 b2 Q → Kv (cN σ) D (Ky κ) (mw κ η) l yX9_goes wsX9_goes (rmX9_goes d_) [.ref (η 0), .int b0, .int b1, .int b2] M Q) {K21 : Sg → Int32 → Int32 → Int32 → Int32 → Prop} (X : CallFix p m c cX9_goes 5 s args wsX9_goes RX9) (hr : meth.sig.returnType = none) (hlk : meth.locks = false) (hK21 : ∀ (M : Sg) (x1 : Int32) (x2 : Int32) (x3 : Int32) (x4 : Int32) (H : Heap) (locs : List Loc) (ls : Array Slot), K21 M x1 x2 x3 x4 → Wd (cN σ) D (Ky κ) A s (mw κ η M) H locs → lv_has ls 5 [(0, .ref (η 0)), (1, .int x1), (2, .int x2), (3, .int x3), (4, .int x4)] → W p l e (rmX9_goes (d_ + 1)) s m args below meth c H locs 0 0 (MQ below (Qv D (Ky κ) (mw κ η) A Q) args s 0 0 A) (F0 m 21 ls [])) : ∀ (M : Sg) (x1 : Int32) (x2 : Int32) (x3 : Int32) (x4 : Int32) (s0 : Int32) (H : Heap) (locs : List Loc) (ls : Array Slot), vX9_goes_139 W_ K21 Q M x1 x2 x3 x4 s0 → Wd (cN σ) D (Ky κ) A s (mw κ η M) H locs → lv_has ls 5 [(0, .ref (η 0)), (1, .int x1), (2, .int x2), (3, .int x3), (4, .int x4)] → W p l e (rmX9_goes (d_ + 1)) s m args below meth c H locs 0 0 (MQ below (Qv D (Ky κ) (mw κ η) A Q) args s 0 0 A) (F0 m 139 ls [.int s0, .ref (η 0)]) := by
  intro M x1 x2 x3 x4 s0 H locs ls h hw hl
  refine lv_iload_n X.1 X.2.1 dX9_goes_139 rfl (lv_at hl 2 rfl) ?_
  refine lv_aload_n X.1 X.2.1 dX9_goes_140 rfl (lv_at hl 0 rfl) ?_
  refine r_gf X inX9_goes_X9 hw 0 rfl rfl 48 (by decide) (X.2.2.2.2 (.fieldLink RX9 143 "TestHallModel" "minutes" "[I") (by decide +kernel)) rfl rfl dX9_goes_141 ?_
  refine lv_iload X.1 X.2.1 dX9_goes_144 (lv_at hl 4 rfl) ?_
  obtain ⟨hi_, h⟩ := h
  refine r_ial X hw 35 0 rfl rfl hi_ dX9_goes_146 ?_
  refine lv_iadd X.1 X.2.1 dX9_goes_147 ?_
  refine lv_iload_n X.1 X.2.1 dX9_goes_148 rfl (lv_at hl 3 rfl) ?_
  refine lv_aload_n X.1 X.2.1 dX9_goes_149 rfl (lv_at hl 0 rfl) ?_
  refine r_gf X inX9_goes_X9 hw 0 rfl rfl 49 (by decide) (X.2.2.2.2 (.fieldLink RX9 146 "TestHallModel" "marks" "[I") (by decide +kernel)) rfl rfl dX9_goes_150 ?_
  refine lv_iload X.1 X.2.1 dX9_goes_153 (lv_at hl 4 rfl) ?_
  obtain ⟨hi_, h⟩ := h
  refine r_ial X hw 36 0 rfl rfl hi_ dX9_goes_155 ?_
  refine lv_ior X.1 X.2.1 dX9_goes_156 ?_
  refine r_Vv (As := [.int s0, .int (x2 + (gA M 48 x4.toNatClampNeg)), .int (x3 ||| (gA M 49 x4.toNatClampNeg))]) (rest := []) X cN_ok (IH_ h) (cwV 3 X.2.2.2.2 gX9_goes_X9_goes rfl rfl rfl (by decide +kernel) ⟨by simp only [rmX9_goes]; omega, by simp only [rmX9_goes]; omega⟩) hw 0 8 rfl rfl rfl hl.1 rfl (Nat.le_of_ble_eq_true rfl) dX9_goes_157 (fun M_1 H locs h hw => ?_)
  refine lv_aload_n X.1 X.2.1 dX9_goes_160 rfl (lv_at hl 0 rfl) ?_
  refine lv_dup X.1 X.2.1 dX9_goes_161 rfl ?_
  refine r_gf X inX9_goes_X9 hw 0 rfl rfl 53 (by decide) (X.2.2.2.2 (.fieldLink RX9 317 "TestHallModel" "wayMany" "I") (by decide +kernel)) rfl rfl dX9_goes_162 ?_
  refine lv_iconst (v := (1 : Int32)) X.1 X.2.1 dX9_goes_165 (by decide) ?_
  refine lv_isub X.1 X.2.1 dX9_goes_166 ?_
  refine r_pf (ty := .int) (w' := mw κ η (sI M_1 53 ((gI M_1 53) - (1 : Int32)))) X inX9_goes_X9 tyX9_ok nmX9 hw 0 rfl rfl 53 (by decide) (X.2.2.2.2 (.fieldLink RX9 317 "TestHallModel" "wayMany" "I") (by decide +kernel)) rfl rfl (by decide +kernel) rfl rfl (Nat.le_of_ble_eq_true rfl) rfl dX9_goes_167 (fun H locs hw => ?_)
  obtain ⟨M_3, eM_3⟩ : ∃ y : Sg, y = sI M_1 53 ((gI M_1 53) - (1 : Int32)) := ⟨_, rfl⟩
  rw [← eM_3] at hw
  have h := h M_3 eM_3
  refine lv_aload_n X.1 X.2.1 dX9_goes_170 rfl (lv_at hl 0 rfl) ?_
  refine r_gf X inX9_goes_X9 hw 0 rfl rfl 51 (by decide) (X.2.2.2.2 (.fieldLink RX9 152 "TestHallModel" "isGone" "[Z") (by decide +kernel)) rfl rfl dX9_goes_171 ?_
  refine lv_iload X.1 X.2.1 dX9_goes_174 (lv_at hl 4 rfl) ?_
  refine lv_iconst (v := (0 : Int32)) X.1 X.2.1 dX9_goes_176 (by decide) ?_
  obtain ⟨hi_, h⟩ := h
  refine r_zas (w' := mw κ η (sA M_3 51 x4.toNatClampNeg (vp_nar .boolean (0 : Int32)))) X hw 38 1 rfl rfl hi_ rfl dX9_goes_177 (fun H locs hw => ?_)
  obtain ⟨M_4, eM_4⟩ : ∃ y : Sg, y = sA M_3 51 x4.toNatClampNeg (vp_nar .boolean (0 : Int32)) := ⟨_, rfl⟩
  rw [← eM_4] at hw
  have h := h M_4 eM_4
  exact bX9_goes_178 IH_ X hr hlk hK21 M_4 x1 x2 x3 x4 _ _ _ h hw (lv_sub hl [0, 1, 2, 3, 4] rfl)
def vX9_goes_81 (W_ : Sg → Int32 → Int32 → Int32 → (Sg → Prop) → Prop) (K21 : Sg → Int32 → Int32 → Int32 → Int32 → Prop) (Q : Sg → Prop) (M : Sg) (x1 : Int32) (x2 : Int32) (x3 : Int32) (x4 : Int32) : Prop := (vp_in x4 24 ∧ (∀ (M_1 : Sg), M_1 = sA M 51 x4.toNatClampNeg (vp_nar .boolean (1 : Int32)) → (vp_in (gI M_1 53) 8 ∧ (∀ (M_2 : Sg), M_2 = sA M_1 52 (gI M_1 53).toNatClampNeg x4 → (∀ (M_3 : Sg), M_3 = sI M_2 53 ((gI M_2 53) + (1 : Int32)) → (vp_in x4 24 ∧ ((¬ (gA M_3 46 x4.toNatClampNeg) = x1 → (vp_in x4 24 ∧ (vX9_goes_139 W_ K21 Q M_3 x1 x2 x3 x4 (gA M_3 46 x4.toNatClampNeg)))) ∧ ((gA M_3 46 x4.toNatClampNeg) = x1 → (vp_in x4 24 ∧ (vX9_goes_139 W_ K21 Q M_3 x1 x2 x3 x4 (gA M_3 47 x4.toNatClampNeg)))))))))))
set_option maxHeartbeats 4000000 in
set_option maxRecDepth 100000 in
theorem bX9_goes_81 {p : Program} {l : Launch} {e : Env} {s : State} {m : MethodId} {args : Array Value} {below : List Frame} {meth : Method} {c : Code} {D : va_G} {κ : Nat → ClassId} {η : Nat → Nat} {σ : (Nat → Nat) × (Nat → Nat)} {A : Nat → Prop} {Q : Sg → Prop} {d_ : Nat} {W_ : Sg → Int32 → Int32 → Int32 → (Sg → Prop) → Prop} (IH_ : ∀ {M : Sg} {b0 b1 b2 : Int32} {Q : Sg → Prop}, W_ M b0 b1 b2 Q → Kv (cN σ) D (Ky κ) (mw κ η) l yX9_goes wsX9_goes (rmX9_goes d_) [.ref (η 0), .int b0, .int b1, .int b2] M Q) {K21 : Sg → Int32 → Int32 → Int32 → Int32 → Prop} (X : CallFix p m c cX9_goes 5 s args wsX9_goes RX9) (hr : meth.sig.returnType = none) (hlk : meth.locks = false) (hK21 : ∀ (M : Sg) (x1 : Int32) (x2 : Int32) (x3 : Int32) (x4 : Int32) (H : Heap) (locs : List Loc) (ls : Array Slot), K21 M x1 x2 x3 x4 → Wd (cN σ) D (Ky κ) A s (mw κ η M) H locs → lv_has ls 5 [(0, .ref (η 0)), (1, .int x1), (2, .int x2), (3, .int x3), (4, .int x4)] → W p l e (rmX9_goes (d_ + 1)) s m args below meth c H locs 0 0 (MQ below (Qv D (Ky κ) (mw κ η) A Q) args s 0 0 A) (F0 m 21 ls [])) : ∀ (M : Sg) (x1 : Int32) (x2 : Int32) (x3 : Int32) (x4 : Int32) (H : Heap) (locs : List Loc) (ls : Array Slot), vX9_goes_81 W_ K21 Q M x1 x2 x3 x4 → Wd (cN σ) D (Ky κ) A s (mw κ η M) H locs → lv_has ls 5 [(0, .ref (η 0)), (1, .int x1), (2, .int x2), (3, .int x3), (4, .int x4)] → W p l e (rmX9_goes (d_ + 1)) s m args below meth c H locs 0 0 (MQ below (Qv D (Ky κ) (mw κ η) A Q) args s 0 0 A) (F0 m 81 ls []) := by
  intro M x1 x2 x3 x4 H locs ls h hw hl
  refine lv_aload_n X.1 X.2.1 dX9_goes_81 rfl (lv_at hl 0 rfl) ?_
  refine r_gf X inX9_goes_X9 hw 0 rfl rfl 51 (by decide) (X.2.2.2.2 (.fieldLink RX9 152 "TestHallModel" "isGone" "[Z") (by decide +kernel)) rfl rfl dX9_goes_82 ?_
  refine lv_iload X.1 X.2.1 dX9_goes_85 (lv_at hl 4 rfl) ?_
  refine lv_iconst (v := (1 : Int32)) X.1 X.2.1 dX9_goes_87 (by decide) ?_
  obtain ⟨hi_, h⟩ := h
  refine r_zas (w' := mw κ η (sA M 51 x4.toNatClampNeg (vp_nar .boolean (1 : Int32)))) X hw 38 1 rfl rfl hi_ rfl dX9_goes_88 (fun H locs hw => ?_)
  obtain ⟨M_1, eM_1⟩ : ∃ y : Sg, y = sA M 51 x4.toNatClampNeg (vp_nar .boolean (1 : Int32)) := ⟨_, rfl⟩
  rw [← eM_1] at hw
  have h := h M_1 eM_1
  refine lv_aload_n X.1 X.2.1 dX9_goes_89 rfl (lv_at hl 0 rfl) ?_
  refine r_gf X inX9_goes_X9 hw 0 rfl rfl 52 (by decide) (X.2.2.2.2 (.fieldLink RX9 155 "TestHallModel" "way" "[I") (by decide +kernel)) rfl rfl dX9_goes_90 ?_
  refine lv_aload_n X.1 X.2.1 dX9_goes_93 rfl (lv_at hl 0 rfl) ?_
  refine r_gf X inX9_goes_X9 hw 0 rfl rfl 53 (by decide) (X.2.2.2.2 (.fieldLink RX9 317 "TestHallModel" "wayMany" "I") (by decide +kernel)) rfl rfl dX9_goes_94 ?_
  refine lv_iload X.1 X.2.1 dX9_goes_97 (lv_at hl 4 rfl) ?_
  obtain ⟨hi_, h⟩ := h
  refine r_ias (w' := mw κ η (sA M_1 52 (gI M_1 53).toNatClampNeg x4)) X hw 39 0 rfl rfl hi_ rfl dX9_goes_99 (fun H locs hw => ?_)
  obtain ⟨M_2, eM_2⟩ : ∃ y : Sg, y = sA M_1 52 (gI M_1 53).toNatClampNeg x4 := ⟨_, rfl⟩
  rw [← eM_2] at hw
  have h := h M_2 eM_2
  refine lv_aload_n X.1 X.2.1 dX9_goes_100 rfl (lv_at hl 0 rfl) ?_
  refine lv_dup X.1 X.2.1 dX9_goes_101 rfl ?_
  refine r_gf X inX9_goes_X9 hw 0 rfl rfl 53 (by decide) (X.2.2.2.2 (.fieldLink RX9 317 "TestHallModel" "wayMany" "I") (by decide +kernel)) rfl rfl dX9_goes_102 ?_
  refine lv_iconst (v := (1 : Int32)) X.1 X.2.1 dX9_goes_105 (by decide) ?_
  refine lv_iadd X.1 X.2.1 dX9_goes_106 ?_
  refine r_pf (ty := .int) (w' := mw κ η (sI M_2 53 ((gI M_2 53) + (1 : Int32)))) X inX9_goes_X9 tyX9_ok nmX9 hw 0 rfl rfl 53 (by decide) (X.2.2.2.2 (.fieldLink RX9 317 "TestHallModel" "wayMany" "I") (by decide +kernel)) rfl rfl (by decide +kernel) rfl rfl (Nat.le_of_ble_eq_true rfl) rfl dX9_goes_107 (fun H locs hw => ?_)
  obtain ⟨M_3, eM_3⟩ : ∃ y : Sg, y = sI M_2 53 ((gI M_2 53) + (1 : Int32)) := ⟨_, rfl⟩
  rw [← eM_3] at hw
  have h := h M_3 eM_3
  refine lv_aload_n X.1 X.2.1 dX9_goes_110 rfl (lv_at hl 0 rfl) ?_
  refine lv_aload_n X.1 X.2.1 dX9_goes_111 rfl (lv_at hl 0 rfl) ?_
  refine r_gf X inX9_goes_X9 hw 0 rfl rfl 46 (by decide) (X.2.2.2.2 (.fieldLink RX9 137 "TestHallModel" "endA" "[I") (by decide +kernel)) rfl rfl dX9_goes_112 ?_
  refine lv_iload X.1 X.2.1 dX9_goes_115 (lv_at hl 4 rfl) ?_
  obtain ⟨hi_, h⟩ := h
  refine r_ial X hw 33 0 rfl rfl hi_ dX9_goes_117 ?_
  refine lv_iload_n X.1 X.2.1 dX9_goes_118 rfl (lv_at hl 1 rfl) ?_
  obtain ⟨ht_, hf_⟩ := h
  refine lv_icmp_ne (tgt := 132) X.1 X.2.1 dX9_goes_119 (by decide) (fun c_ => ?_) (fun c_ => ?_)
  · have h := ht_ c_
    refine lv_aload_n X.1 X.2.1 dX9_goes_132 rfl (lv_at hl 0 rfl) ?_
    refine r_gf X inX9_goes_X9 hw 0 rfl rfl 46 (by decide) (X.2.2.2.2 (.fieldLink RX9 137 "TestHallModel" "endA" "[I") (by decide +kernel)) rfl rfl dX9_goes_133 ?_
    refine lv_iload X.1 X.2.1 dX9_goes_136 (lv_at hl 4 rfl) ?_
    obtain ⟨hi_, h⟩ := h
    refine r_ial X hw 33 0 rfl rfl hi_ dX9_goes_138 ?_
    exact bX9_goes_139 IH_ X hr hlk hK21 M_3 x1 x2 x3 x4 (gA M_3 46 x4.toNatClampNeg) _ _ _ h hw (lv_sub hl [0, 1, 2, 3, 4] rfl)
  · have h := hf_ c_
    refine lv_aload_n X.1 X.2.1 dX9_goes_122 rfl (lv_at hl 0 rfl) ?_
    refine r_gf X inX9_goes_X9 hw 0 rfl rfl 47 (by decide) (X.2.2.2.2 (.fieldLink RX9 140 "TestHallModel" "endB" "[I") (by decide +kernel)) rfl rfl dX9_goes_123 ?_
    refine lv_iload X.1 X.2.1 dX9_goes_126 (lv_at hl 4 rfl) ?_
    obtain ⟨hi_, h⟩ := h
    refine r_ial X hw 34 0 rfl rfl hi_ dX9_goes_128 ?_
    refine lv_goto (tgt := 139) X.1 X.2.1 dX9_goes_129 (by decide) ?_
    exact bX9_goes_139 IH_ X hr hlk hK21 M_3 x1 x2 x3 x4 (gA M_3 47 x4.toNatClampNeg) _ _ _ h hw (lv_sub hl [0, 1, 2, 3, 4] rfl)
def vX9_goes_21 (W_ : Sg → Int32 → Int32 → Int32 → (Sg → Prop) → Prop) (Q : Sg → Prop) : Nat → Sg → Int32 → Int32 → Int32 → Int32 → Prop
  | 0, _, _, _, _, _ => False
  | f21_ + 1, M, x1, x2, x3, x4 => (((gI M 45) ≤ x4 → (Q M)) ∧ (¬ (gI M 45) ≤ x4 → (((8 : Int32) ≤ (gI M 53) → (Q M)) ∧ (¬ (8 : Int32) ≤ (gI M 53) → (vp_in x4 24 ∧ ((¬ (gA M 50 x4.toNatClampNeg) = 0 → (vX9_goes_178 W_ (vX9_goes_21 W_ Q f21_) Q M x1 x2 x3 x4)) ∧ ((gA M 50 x4.toNatClampNeg) = 0 → (vp_in x4 24 ∧ ((¬ (gA M 51 x4.toNatClampNeg) = 0 → (vX9_goes_178 W_ (vX9_goes_21 W_ Q f21_) Q M x1 x2 x3 x4)) ∧ ((gA M 51 x4.toNatClampNeg) = 0 → (vp_in x4 24 ∧ (((gA M 46 x4.toNatClampNeg) = x1 → (vX9_goes_81 W_ (vX9_goes_21 W_ Q f21_) Q M x1 x2 x3 x4)) ∧ (¬ (gA M 46 x4.toNatClampNeg) = x1 → (vp_in x4 24 ∧ ((¬ (gA M 47 x4.toNatClampNeg) = x1 → (vX9_goes_178 W_ (vX9_goes_21 W_ Q f21_) Q M x1 x2 x3 x4)) ∧ ((gA M 47 x4.toNatClampNeg) = x1 → (vX9_goes_81 W_ (vX9_goes_21 W_ Q f21_) Q M x1 x2 x3 x4)))))))))))))))))
set_option maxHeartbeats 4000000 in
set_option maxRecDepth 100000 in
theorem bX9_goes_21 {p : Program} {l : Launch} {e : Env} {s : State} {m : MethodId} {args : Array Value} {below : List Frame} {meth : Method} {c : Code} {D : va_G} {κ : Nat → ClassId} {η : Nat → Nat} {σ : (Nat → Nat) × (Nat → Nat)} {A : Nat → Prop} {Q : Sg → Prop} {d_ : Nat} {W_ : Sg → Int32 → Int32 → Int32 → (Sg → Prop) → Prop} (IH_ : ∀ {M : Sg} {b0 b1 b2 : Int32} {Q : Sg → Prop}, W_ M b0 b1 b2 Q → Kv (cN σ) D (Ky κ) (mw κ η) l yX9_goes wsX9_goes (rmX9_goes d_) [.ref (η 0), .int b0, .int b1, .int b2] M Q) (X : CallFix p m c cX9_goes 5 s args wsX9_goes RX9) (hr : meth.sig.returnType = none) (hlk : meth.locks = false) : ∀ (f_ : Nat) (M : Sg) (x1 : Int32) (x2 : Int32) (x3 : Int32) (x4 : Int32) (H : Heap) (locs : List Loc) (ls : Array Slot), vX9_goes_21 W_ Q f_ M x1 x2 x3 x4 → Wd (cN σ) D (Ky κ) A s (mw κ η M) H locs → lv_has ls 5 [(0, .ref (η 0)), (1, .int x1), (2, .int x2), (3, .int x3), (4, .int x4)] → W p l e (rmX9_goes (d_ + 1)) s m args below meth c H locs 0 0 (MQ below (Qv D (Ky κ) (mw κ η) A Q) args s 0 0 A) (F0 m 21 ls []) := by
  intro f_
  induction f_ with
  | zero => intro M x1 x2 x3 x4 H locs ls h; exact h.elim
  | succ f_ hK21 =>
    intro M x1 x2 x3 x4 H locs ls h hw hl
    refine lv_iload X.1 X.2.1 dX9_goes_21 (lv_at hl 4 rfl) ?_
    refine lv_aload_n X.1 X.2.1 dX9_goes_23 rfl (lv_at hl 0 rfl) ?_
    refine r_gf X inX9_goes_X9 hw 0 rfl rfl 45 (by decide) (X.2.2.2.2 (.fieldLink RX9 311 "TestHallModel" "streets" "I") (by decide +kernel)) rfl rfl dX9_goes_24 ?_
    obtain ⟨ht_, hf_⟩ := h
    refine lv_icmp_ge (tgt := 184) X.1 X.2.1 dX9_goes_27 (by decide) (fun c_ => ?_) (fun c_ => ?_)
    · have h := ht_ c_
      exact r_vret X hr hlk hw h dX9_goes_184
    · have h := hf_ c_
      refine lv_aload_n X.1 X.2.1 dX9_goes_30 rfl (lv_at hl 0 rfl) ?_
      refine r_gf X inX9_goes_X9 hw 0 rfl rfl 53 (by decide) (X.2.2.2.2 (.fieldLink RX9 317 "TestHallModel" "wayMany" "I") (by decide +kernel)) rfl rfl dX9_goes_31 ?_
      refine lv_bipush (v := (8 : Int32)) X.1 X.2.1 dX9_goes_34 (by decide) ?_
      obtain ⟨ht_, hf_⟩ := h
      refine lv_icmp_ge (tgt := 184) X.1 X.2.1 dX9_goes_36 (by decide) (fun c_ => ?_) (fun c_ => ?_)
      · have h := ht_ c_
        exact r_vret X hr hlk hw h dX9_goes_184
      · have h := hf_ c_
        refine lv_aload_n X.1 X.2.1 dX9_goes_39 rfl (lv_at hl 0 rfl) ?_
        refine r_gf X inX9_goes_X9 hw 0 rfl rfl 50 (by decide) (X.2.2.2.2 (.fieldLink RX9 149 "TestHallModel" "isClosed" "[Z") (by decide +kernel)) rfl rfl dX9_goes_40 ?_
        refine lv_iload X.1 X.2.1 dX9_goes_43 (lv_at hl 4 rfl) ?_
        obtain ⟨hi_, h⟩ := h
        refine r_zal X hw 37 1 rfl rfl hi_ dX9_goes_45 ?_
        obtain ⟨ht_, hf_⟩ := h
        refine lv_if_ne (tgt := 178) X.1 X.2.1 dX9_goes_46 (by decide) (fun c_ => ?_) (fun c_ => ?_)
        · have h := ht_ c_
          exact bX9_goes_178 IH_ X hr hlk hK21 M x1 x2 x3 x4 _ _ _ h hw (lv_sub hl [0, 1, 2, 3, 4] rfl)
        · have h := hf_ c_
          refine lv_aload_n X.1 X.2.1 dX9_goes_49 rfl (lv_at hl 0 rfl) ?_
          refine r_gf X inX9_goes_X9 hw 0 rfl rfl 51 (by decide) (X.2.2.2.2 (.fieldLink RX9 152 "TestHallModel" "isGone" "[Z") (by decide +kernel)) rfl rfl dX9_goes_50 ?_
          refine lv_iload X.1 X.2.1 dX9_goes_53 (lv_at hl 4 rfl) ?_
          obtain ⟨hi_, h⟩ := h
          refine r_zal X hw 38 1 rfl rfl hi_ dX9_goes_55 ?_
          obtain ⟨ht_, hf_⟩ := h
          refine lv_if_ne (tgt := 178) X.1 X.2.1 dX9_goes_56 (by decide) (fun c_ => ?_) (fun c_ => ?_)
          · have h := ht_ c_
            exact bX9_goes_178 IH_ X hr hlk hK21 M x1 x2 x3 x4 _ _ _ h hw (lv_sub hl [0, 1, 2, 3, 4] rfl)
          · have h := hf_ c_
            refine lv_aload_n X.1 X.2.1 dX9_goes_59 rfl (lv_at hl 0 rfl) ?_
            refine r_gf X inX9_goes_X9 hw 0 rfl rfl 46 (by decide) (X.2.2.2.2 (.fieldLink RX9 137 "TestHallModel" "endA" "[I") (by decide +kernel)) rfl rfl dX9_goes_60 ?_
            refine lv_iload X.1 X.2.1 dX9_goes_63 (lv_at hl 4 rfl) ?_
            obtain ⟨hi_, h⟩ := h
            refine r_ial X hw 33 0 rfl rfl hi_ dX9_goes_65 ?_
            refine lv_iload_n X.1 X.2.1 dX9_goes_66 rfl (lv_at hl 1 rfl) ?_
            obtain ⟨ht_, hf_⟩ := h
            refine lv_icmp_eq (tgt := 81) X.1 X.2.1 dX9_goes_67 (by decide) (fun c_ => ?_) (fun c_ => ?_)
            · have h := ht_ c_
              exact bX9_goes_81 IH_ X hr hlk hK21 M x1 x2 x3 x4 _ _ _ h hw (lv_sub hl [0, 1, 2, 3, 4] rfl)
            · have h := hf_ c_
              refine lv_aload_n X.1 X.2.1 dX9_goes_70 rfl (lv_at hl 0 rfl) ?_
              refine r_gf X inX9_goes_X9 hw 0 rfl rfl 47 (by decide) (X.2.2.2.2 (.fieldLink RX9 140 "TestHallModel" "endB" "[I") (by decide +kernel)) rfl rfl dX9_goes_71 ?_
              refine lv_iload X.1 X.2.1 dX9_goes_74 (lv_at hl 4 rfl) ?_
              obtain ⟨hi_, h⟩ := h
              refine r_ial X hw 34 0 rfl rfl hi_ dX9_goes_76 ?_
              refine lv_iload_n X.1 X.2.1 dX9_goes_77 rfl (lv_at hl 1 rfl) ?_
              obtain ⟨ht_, hf_⟩ := h
              refine lv_icmp_ne (tgt := 178) X.1 X.2.1 dX9_goes_78 (by decide) (fun c_ => ?_) (fun c_ => ?_)
              · have h := ht_ c_
                exact bX9_goes_178 IH_ X hr hlk hK21 M x1 x2 x3 x4 _ _ _ h hw (lv_sub hl [0, 1, 2, 3, 4] rfl)
              · have h := hf_ c_
                exact bX9_goes_81 IH_ X hr hlk hK21 M x1 x2 x3 x4 _ _ _ h hw (lv_sub hl [0, 1, 2, 3, 4] rfl)
def vX9_goes_18 (W_ : Sg → Int32 → Int32 → Int32 → (Sg → Prop) → Prop) (Q : Sg → Prop) (M : Sg) (x1 : Int32) (x2 : Int32) (x3 : Int32) : Prop := (∃ g21_ : Nat, vX9_goes_21 W_ Q g21_ M x1 x2 x3 (0 : Int32))
set_option maxHeartbeats 4000000 in
set_option maxRecDepth 100000 in
theorem bX9_goes_18 {p : Program} {l : Launch} {e : Env} {s : State} {m : MethodId} {args : Array Value} {below : List Frame} {meth : Method} {c : Code} {D : va_G} {κ : Nat → ClassId} {η : Nat → Nat} {σ : (Nat → Nat) × (Nat → Nat)} {A : Nat → Prop} {Q : Sg → Prop} {d_ : Nat} {W_ : Sg → Int32 → Int32 → Int32 → (Sg → Prop) → Prop} (IH_ : ∀ {M : Sg} {b0 b1 b2 : Int32} {Q : Sg → Prop}, W_ M b0 b1 b2 Q → Kv (cN σ) D (Ky κ) (mw κ η) l yX9_goes wsX9_goes (rmX9_goes d_) [.ref (η 0), .int b0, .int b1, .int b2] M Q) (X : CallFix p m c cX9_goes 5 s args wsX9_goes RX9) (hr : meth.sig.returnType = none) (hlk : meth.locks = false) : ∀ (M : Sg) (x1 : Int32) (x2 : Int32) (x3 : Int32) (H : Heap) (locs : List Loc) (ls : Array Slot), vX9_goes_18 W_ Q M x1 x2 x3 → Wd (cN σ) D (Ky κ) A s (mw κ η M) H locs → lv_has ls 5 [(0, .ref (η 0)), (1, .int x1), (2, .int x2), (3, .int x3)] → W p l e (rmX9_goes (d_ + 1)) s m args below meth c H locs 0 0 (MQ below (Qv D (Ky κ) (mw κ η) A Q) args s 0 0 A) (F0 m 18 ls []) := by
  intro M x1 x2 x3 H locs ls h hw hl
  refine lv_iconst (v := (0 : Int32)) X.1 X.2.1 dX9_goes_18 (by decide) ?_
  refine lv_istore (lv' := [(4, .int (0 : Int32)), (0, .ref (η 0)), (1, .int x1), (2, .int x2), (3, .int x3)]) X.1 X.2.1 dX9_goes_19 hl (by decide) rfl (fun ls hl => ?_)
  obtain ⟨f_, h⟩ := h
  exact bX9_goes_21 IH_ X hr hlk f_ M x1 x2 x3 (0 : Int32) _ _ _ h hw (lv_sub hl [1, 2, 3, 4, 0] rfl)
def wX9_goes_b (W_ : Sg → Int32 → Int32 → Int32 → (Sg → Prop) → Prop) (M : Sg) (a1 : Int32) (a2 : Int32) (a3 : Int32) (Q : Sg → Prop) : Prop := ((¬ a1 = 0 → (vX9_goes_18 W_ Q M a1 a2 a3)) ∧ (a1 = 0 → (((gI M 53) ≤ 0 → (vX9_goes_18 W_ Q M a1 a2 a3)) ∧ (¬ (gI M 53) ≤ 0 → (wX9_ends M a2 a3 (fun M_1 => (Q M_1)))))))
set_option maxHeartbeats 4000000 in
set_option maxRecDepth 100000 in
theorem kX9_goes_b {l : Launch} {D : va_G} {κ : Nat → ClassId} {η : Nat → Nat} {σ : (Nat → Nat) × (Nat → Nat)} {d_ : Nat} {W_ : Sg → Int32 → Int32 → Int32 → (Sg → Prop) → Prop} (IH_ : ∀ {M : Sg} {b0 b1 b2 : Int32} {Q : Sg → Prop}, W_ M b0 b1 b2 Q → Kv (cN σ) D (Ky κ) (mw κ η) l yX9_goes wsX9_goes (rmX9_goes d_) [.ref (η 0), .int b0, .int b1, .int b2] M Q) {M : Sg} {a1 : Int32} {a2 : Int32} {a3 : Int32} {Q : Sg → Prop} (h : wX9_goes_b W_ M a1 a2 a3 Q) : Kv (cN σ) D (Ky κ) (mw κ η) l yX9_goes wsX9_goes (rmX9_goes (d_ + 1)) [.ref (η 0), .int a1, .int a2, .int a3] M Q := by
  refine ofW_g (Qc := fun A => Qv D (Ky κ) (mw κ η) A Q) (cc := cX9_goes) (maxL := 5) (ret := none) (by decide) rfl (Nat.le_of_ble_eq_true rfl) ?_
  intro p e s m args below meth c A ls X hr hlk hw hl
  have hl : lv_has ls 5 [(0, .ref (η 0)), (1, .int a1), (2, .int a2), (3, .int a3)] := hl
  refine lv_iload_n X.1 X.2.1 dX9_goes_0 rfl (lv_at hl 1 rfl) ?_
  obtain ⟨ht_, hf_⟩ := h
  refine lv_if_ne (tgt := 18) X.1 X.2.1 dX9_goes_1 (by decide) (fun c_ => ?_) (fun c_ => ?_)
  · have h := ht_ c_
    exact bX9_goes_18 IH_ X hr hlk M a1 a2 a3 _ _ _ h hw (lv_sub hl [0, 1, 2, 3] rfl)
  · have h := hf_ c_
    refine lv_aload_n X.1 X.2.1 dX9_goes_4 rfl (lv_at hl 0 rfl) ?_
    refine r_gf X inX9_goes_X9 hw 0 rfl rfl 53 (by decide) (X.2.2.2.2 (.fieldLink RX9 317 "TestHallModel" "wayMany" "I") (by decide +kernel)) rfl rfl dX9_goes_5 ?_
    obtain ⟨ht_, hf_⟩ := h
    refine lv_if_le (tgt := 18) X.1 X.2.1 dX9_goes_8 (by decide) (fun c_ => ?_) (fun c_ => ?_)
    · have h := ht_ c_
      exact bX9_goes_18 IH_ X hr hlk M a1 a2 a3 _ _ _ h hw (lv_sub hl [0, 1, 2, 3] rfl)
    · have h := hf_ c_
      refine lv_aload_n X.1 X.2.1 dX9_goes_11 rfl (lv_at hl 0 rfl) ?_
      refine lv_iload_n X.1 X.2.1 dX9_goes_12 rfl (lv_at hl 2 rfl) ?_
      refine lv_iload_n X.1 X.2.1 dX9_goes_13 rfl (lv_at hl 3 rfl) ?_
      refine r_Vv (As := [.int a2, .int a3]) (rest := []) X cN_ok (kX9_ends h) (cwV 2 X.2.2.2.2 gX9_goes_X9_ends rfl rfl rfl (by decide +kernel) ⟨by simp only [rmX9_goes, rmX9_ends]; omega, by simp only [rmX9_goes, rmX9_ends]; omega⟩) hw 0 8 rfl rfl rfl hl.1 rfl (Nat.le_of_ble_eq_true rfl) dX9_goes_14 (fun M_1 H locs h hw => ?_)
      exact r_vret X hr hlk hw h dX9_goes_17
def wX9_goes : Nat → Sg → Int32 → Int32 → Int32 → (Sg → Prop) → Prop
  | 0 => fun _ _ _ _ _ => False
  | d_ + 1 => wX9_goes_b (wX9_goes d_)
theorem kX9_goes {l : Launch} {D : va_G} {κ : Nat → ClassId} {η : Nat → Nat} {σ : (Nat → Nat) × (Nat → Nat)} : ∀ {d_ : Nat} {M : Sg} {a1 : Int32} {a2 : Int32} {a3 : Int32} {Q : Sg → Prop}, wX9_goes d_ M a1 a2 a3 Q → Kv (cN σ) D (Ky κ) (mw κ η) l yX9_goes wsX9_goes (rmX9_goes d_) [.ref (η 0), .int a1, .int a2, .int a3] M Q := by
  intro d_
  induction d_ with
  | zero => intro M a1 a2 a3 Q h; exact h.elim
  | succ d_ IH_ => intro M a1 a2 a3 Q h; exact kX9_goes_b (W_ := wX9_goes d_) IH_ h

theorem inX9_countAll_X9 : ∀ w ∈ wsX90, w ∈ wsX9_countAll := fun w h => List.mem_cons_of_mem _ (List.mem_append_right _ h)
abbrev rmX9_countAll : Room := { frames := 13, cells := 0, slots := 0, locals := 384 }
def wX9_countAll (M : Sg) (a1 : Int32) (a2 : Int32) (a3 : Int32) (a4 : Int32) (Q : Sg → Int32 → Prop) : Prop := (∀ (M_1 : Sg), M_1 = sI M 56 a1 → (∀ (M_2 : Sg), M_2 = sI M_1 57 a2 → (∀ (M_3 : Sg), M_3 = sI M_2 58 a3 → (∀ (M_4 : Sg), M_4 = sI M_3 60 a4 → (∀ (M_5 : Sg), M_5 = sI M_4 59 (0 : Int32) → (∀ (M_6 : Sg), M_6 = sI M_5 53 (0 : Int32) → (wX9_goes 10 M_6 (0 : Int32) (0 : Int32) (0 : Int32) (fun M_7 => (Q M_7 (gI M_7 59))))))))))
set_option maxHeartbeats 4000000 in
set_option maxRecDepth 100000 in
theorem kX9_countAll {l : Launch} {D : va_G} {κ : Nat → ClassId} {η : Nat → Nat} {σ : (Nat → Nat) × (Nat → Nat)} {M : Sg} {a1 : Int32} {a2 : Int32} {a3 : Int32} {a4 : Int32} {Q : Sg → Int32 → Prop} (h : wX9_countAll M a1 a2 a3 a4 Q) : Ki (cN σ) D (Ky κ) (mw κ η) l yX9_countAll wsX9_countAll rmX9_countAll [.ref (η 0), .int a1, .int a2, .int a3, .int a4] M Q := by
  refine ofW_g (Qc := fun A => Qi D (Ky κ) (mw κ η) A Q) (cc := cX9_countAll) (maxL := 5) (ret := (some .int)) (by decide) rfl (Nat.le_of_ble_eq_true rfl) ?_
  intro p e s m args below meth c A ls X hr hlk hw hl
  have hl : lv_has ls 5 [(0, .ref (η 0)), (1, .int a1), (2, .int a2), (3, .int a3), (4, .int a4)] := hl
  refine lv_aload_n X.1 X.2.1 dX9_countAll_0 rfl (lv_at hl 0 rfl) ?_
  refine lv_iload_n X.1 X.2.1 dX9_countAll_1 rfl (lv_at hl 1 rfl) ?_
  refine r_pf (ty := .int) (w' := mw κ η (sI M 56 a1)) X inX9_countAll_X9 tyX9_ok nmX9 hw 0 rfl rfl 56 (by decide) (X.2.2.2.2 (.fieldLink RX9 327 "TestHallModel" "wantLeast" "I") (by decide +kernel)) rfl rfl (by decide +kernel) rfl rfl (Nat.le_of_ble_eq_true rfl) rfl dX9_countAll_2 (fun H locs hw => ?_)
  obtain ⟨M_1, eM_1⟩ : ∃ y : Sg, y = sI M 56 a1 := ⟨_, rfl⟩
  rw [← eM_1] at hw
  have h := h M_1 eM_1
  refine lv_aload_n X.1 X.2.1 dX9_countAll_5 rfl (lv_at hl 0 rfl) ?_
  refine lv_iload_n X.1 X.2.1 dX9_countAll_6 rfl (lv_at hl 2 rfl) ?_
  refine r_pf (ty := .int) (w' := mw κ η (sI M_1 57 a2)) X inX9_countAll_X9 tyX9_ok nmX9 hw 0 rfl rfl 57 (by decide) (X.2.2.2.2 (.fieldLink RX9 330 "TestHallModel" "wantMost" "I") (by decide +kernel)) rfl rfl (by decide +kernel) rfl rfl (Nat.le_of_ble_eq_true rfl) rfl dX9_countAll_7 (fun H locs hw => ?_)
  obtain ⟨M_2, eM_2⟩ : ∃ y : Sg, y = sI M_1 57 a2 := ⟨_, rfl⟩
  rw [← eM_2] at hw
  have h := h M_2 eM_2
  refine lv_aload_n X.1 X.2.1 dX9_countAll_10 rfl (lv_at hl 0 rfl) ?_
  refine lv_iload_n X.1 X.2.1 dX9_countAll_11 rfl (lv_at hl 3 rfl) ?_
  refine r_pf (ty := .int) (w' := mw κ η (sI M_2 58 a3)) X inX9_countAll_X9 tyX9_ok nmX9 hw 0 rfl rfl 58 (by decide) (X.2.2.2.2 (.fieldLink RX9 333 "TestHallModel" "wantMarks" "I") (by decide +kernel)) rfl rfl (by decide +kernel) rfl rfl (Nat.le_of_ble_eq_true rfl) rfl dX9_countAll_12 (fun H locs hw => ?_)
  obtain ⟨M_3, eM_3⟩ : ∃ y : Sg, y = sI M_2 58 a3 := ⟨_, rfl⟩
  rw [← eM_3] at hw
  have h := h M_3 eM_3
  refine lv_aload_n X.1 X.2.1 dX9_countAll_15 rfl (lv_at hl 0 rfl) ?_
  refine lv_iload X.1 X.2.1 dX9_countAll_16 (lv_at hl 4 rfl) ?_
  refine r_pf (ty := .int) (w' := mw κ η (sI M_3 60 a4)) X inX9_countAll_X9 tyX9_ok nmX9 hw 0 rfl rfl 60 (by decide) (X.2.2.2.2 (.fieldLink RX9 339 "TestHallModel" "wanted" "I") (by decide +kernel)) rfl rfl (by decide +kernel) rfl rfl (Nat.le_of_ble_eq_true rfl) rfl dX9_countAll_18 (fun H locs hw => ?_)
  obtain ⟨M_4, eM_4⟩ : ∃ y : Sg, y = sI M_3 60 a4 := ⟨_, rfl⟩
  rw [← eM_4] at hw
  have h := h M_4 eM_4
  refine lv_aload_n X.1 X.2.1 dX9_countAll_21 rfl (lv_at hl 0 rfl) ?_
  refine lv_iconst (v := (0 : Int32)) X.1 X.2.1 dX9_countAll_22 (by decide) ?_
  refine r_pf (ty := .int) (w' := mw κ η (sI M_4 59 (0 : Int32))) X inX9_countAll_X9 tyX9_ok nmX9 hw 0 rfl rfl 59 (by decide) (X.2.2.2.2 (.fieldLink RX9 336 "TestHallModel" "found" "I") (by decide +kernel)) rfl rfl (by decide +kernel) rfl rfl (Nat.le_of_ble_eq_true rfl) rfl dX9_countAll_23 (fun H locs hw => ?_)
  obtain ⟨M_5, eM_5⟩ : ∃ y : Sg, y = sI M_4 59 (0 : Int32) := ⟨_, rfl⟩
  rw [← eM_5] at hw
  have h := h M_5 eM_5
  refine lv_aload_n X.1 X.2.1 dX9_countAll_26 rfl (lv_at hl 0 rfl) ?_
  refine lv_iconst (v := (0 : Int32)) X.1 X.2.1 dX9_countAll_27 (by decide) ?_
  refine r_pf (ty := .int) (w' := mw κ η (sI M_5 53 (0 : Int32))) X inX9_countAll_X9 tyX9_ok nmX9 hw 0 rfl rfl 53 (by decide) (X.2.2.2.2 (.fieldLink RX9 317 "TestHallModel" "wayMany" "I") (by decide +kernel)) rfl rfl (by decide +kernel) rfl rfl (Nat.le_of_ble_eq_true rfl) rfl dX9_countAll_28 (fun H locs hw => ?_)
  obtain ⟨M_6, eM_6⟩ : ∃ y : Sg, y = sI M_5 53 (0 : Int32) := ⟨_, rfl⟩
  rw [← eM_6] at hw
  have h := h M_6 eM_6
  refine lv_aload_n X.1 X.2.1 dX9_countAll_31 rfl (lv_at hl 0 rfl) ?_
  refine lv_iconst (v := (0 : Int32)) X.1 X.2.1 dX9_countAll_32 (by decide) ?_
  refine lv_iconst (v := (0 : Int32)) X.1 X.2.1 dX9_countAll_33 (by decide) ?_
  refine lv_iconst (v := (0 : Int32)) X.1 X.2.1 dX9_countAll_34 (by decide) ?_
  refine r_Vv (As := [.int (0 : Int32), .int (0 : Int32), .int (0 : Int32)]) (rest := []) X cN_ok (kX9_goes h) (cwV 3 X.2.2.2.2 gX9_countAll_X9_goes rfl rfl rfl (by decide +kernel) ⟨Nat.le_of_ble_eq_true rfl, Nat.le_of_ble_eq_true rfl⟩) hw 0 8 rfl rfl rfl hl.1 rfl (Nat.le_of_ble_eq_true rfl) dX9_countAll_35 (fun M_7 H locs h hw => ?_)
  refine lv_aload_n X.1 X.2.1 dX9_countAll_38 rfl (lv_at hl 0 rfl) ?_
  refine r_gf X inX9_countAll_X9 hw 0 rfl rfl 59 (by decide) (X.2.2.2.2 (.fieldLink RX9 336 "TestHallModel" "found" "I") (by decide +kernel)) rfl rfl dX9_countAll_39 ?_
  exact r_ret X hr hlk hw h dX9_countAll_42

abbrev rmX9_areNumbers : Room := { frames := 0, cells := 0, slots := 0, locals := 0 }
def wX9_areNumbers (M : Sg) (a0 : Int32) (a1 : Int32) (a2 : Int32) (Q : Sg → Int32 → Prop) : Prop := ((a0 < 0 → (Q M (0 : Int32))) ∧ (¬ a0 < 0 → (((240 : Int32) < a0 → (Q M (0 : Int32))) ∧ (¬ (240 : Int32) < a0 → ((a1 < 0 → (Q M (0 : Int32))) ∧ (¬ a1 < 0 → (((240 : Int32) < a1 → (Q M (0 : Int32))) ∧ (¬ (240 : Int32) < a1 → ((a2 < 0 → (Q M (0 : Int32))) ∧ (¬ a2 < 0 → (((255 : Int32) < a2 → (Q M (0 : Int32))) ∧ (¬ (255 : Int32) < a2 → (Q M (1 : Int32))))))))))))))
set_option maxHeartbeats 4000000 in
set_option maxRecDepth 100000 in
theorem kX9_areNumbers {l : Launch} {D : va_G} {κ : Nat → ClassId} {η : Nat → Nat} {σ : (Nat → Nat) × (Nat → Nat)} {M : Sg} {a0 : Int32} {a1 : Int32} {a2 : Int32} {Q : Sg → Int32 → Prop} (h : wX9_areNumbers M a0 a1 a2 Q) : Ki (cN σ) D (Ky κ) (mw κ η) l yX9_areNumbers wsX9_areNumbers rmX9_areNumbers [.int a0, .int a1, .int a2] M Q := by
  refine ofW_g (Qc := fun A => Qi D (Ky κ) (mw κ η) A Q) (cc := cX9_areNumbers) (maxL := 3) (ret := (some .boolean)) (by decide) rfl (Nat.le_of_ble_eq_true rfl) ?_
  intro p e s m args below meth c A ls X hr hlk hw hl
  have hl : lv_has ls 3 [(0, .int a0), (1, .int a1), (2, .int a2)] := hl
  refine lv_iload_n X.1 X.2.1 dX9_areNumbers_0 rfl (lv_at hl 0 rfl) ?_
  obtain ⟨ht_, hf_⟩ := h
  refine lv_if_lt (tgt := 37) X.1 X.2.1 dX9_areNumbers_1 (by decide) (fun c_ => ?_) (fun c_ => ?_)
  · have h := ht_ c_
    refine lv_iconst (v := (0 : Int32)) X.1 X.2.1 dX9_areNumbers_37 (by decide) ?_
    exact r_zret X hr hlk hw rfl h dX9_areNumbers_38
  · have h := hf_ c_
    refine lv_iload_n X.1 X.2.1 dX9_areNumbers_4 rfl (lv_at hl 0 rfl) ?_
    refine lv_sipush (v := (240 : Int32)) X.1 X.2.1 dX9_areNumbers_5 (by decide) ?_
    obtain ⟨ht_, hf_⟩ := h
    refine lv_icmp_gt (tgt := 37) X.1 X.2.1 dX9_areNumbers_8 (by decide) (fun c_ => ?_) (fun c_ => ?_)
    · have h := ht_ c_
      refine lv_iconst (v := (0 : Int32)) X.1 X.2.1 dX9_areNumbers_37 (by decide) ?_
      exact r_zret X hr hlk hw rfl h dX9_areNumbers_38
    · have h := hf_ c_
      refine lv_iload_n X.1 X.2.1 dX9_areNumbers_11 rfl (lv_at hl 1 rfl) ?_
      obtain ⟨ht_, hf_⟩ := h
      refine lv_if_lt (tgt := 37) X.1 X.2.1 dX9_areNumbers_12 (by decide) (fun c_ => ?_) (fun c_ => ?_)
      · have h := ht_ c_
        refine lv_iconst (v := (0 : Int32)) X.1 X.2.1 dX9_areNumbers_37 (by decide) ?_
        exact r_zret X hr hlk hw rfl h dX9_areNumbers_38
      · have h := hf_ c_
        refine lv_iload_n X.1 X.2.1 dX9_areNumbers_15 rfl (lv_at hl 1 rfl) ?_
        refine lv_sipush (v := (240 : Int32)) X.1 X.2.1 dX9_areNumbers_16 (by decide) ?_
        obtain ⟨ht_, hf_⟩ := h
        refine lv_icmp_gt (tgt := 37) X.1 X.2.1 dX9_areNumbers_19 (by decide) (fun c_ => ?_) (fun c_ => ?_)
        · have h := ht_ c_
          refine lv_iconst (v := (0 : Int32)) X.1 X.2.1 dX9_areNumbers_37 (by decide) ?_
          exact r_zret X hr hlk hw rfl h dX9_areNumbers_38
        · have h := hf_ c_
          refine lv_iload_n X.1 X.2.1 dX9_areNumbers_22 rfl (lv_at hl 2 rfl) ?_
          obtain ⟨ht_, hf_⟩ := h
          refine lv_if_lt (tgt := 37) X.1 X.2.1 dX9_areNumbers_23 (by decide) (fun c_ => ?_) (fun c_ => ?_)
          · have h := ht_ c_
            refine lv_iconst (v := (0 : Int32)) X.1 X.2.1 dX9_areNumbers_37 (by decide) ?_
            exact r_zret X hr hlk hw rfl h dX9_areNumbers_38
          · have h := hf_ c_
            refine lv_iload_n X.1 X.2.1 dX9_areNumbers_26 rfl (lv_at hl 2 rfl) ?_
            refine lv_sipush (v := (255 : Int32)) X.1 X.2.1 dX9_areNumbers_27 (by decide) ?_
            obtain ⟨ht_, hf_⟩ := h
            refine lv_icmp_gt (tgt := 37) X.1 X.2.1 dX9_areNumbers_30 (by decide) (fun c_ => ?_) (fun c_ => ?_)
            · have h := ht_ c_
              refine lv_iconst (v := (0 : Int32)) X.1 X.2.1 dX9_areNumbers_37 (by decide) ?_
              exact r_zret X hr hlk hw rfl h dX9_areNumbers_38
            · have h := hf_ c_
              refine lv_iconst (v := (1 : Int32)) X.1 X.2.1 dX9_areNumbers_33 (by decide) ?_
              refine lv_goto (tgt := 38) X.1 X.2.1 dX9_areNumbers_34 (by decide) ?_
              exact r_zret X hr hlk hw rfl h dX9_areNumbers_38

theorem inX9_routes_X9 : ∀ w ∈ wsX90, w ∈ wsX9_routes := fun w h => List.mem_cons_of_mem _ (List.mem_append_right _ h)
abbrev rmX9_routes : Room := { frames := 14, cells := 0, slots := 0, locals := 408 }
def wX9_routes (M : Sg) (a1 : Int32) (a2 : Int32) (a3 : Int32) (Q : Sg → Int32 → Prop) : Prop := (∀ (M_1 : Sg), M_1 = sI M 0 (0 : Int32) → (wX9_areNumbers M_1 a1 a2 a3 (fun M_2 r_3 => ((r_3 = 0 → (Q M_2 (-1 : Int32))) ∧ (¬ r_3 = 0 → (wX9_countAll M_2 a1 a2 a3 (-1 : Int32) (fun M_4 r_5 => (Q M_4 r_5))))))))
set_option maxHeartbeats 4000000 in
set_option maxRecDepth 100000 in
theorem kX9_routes {l : Launch} {D : va_G} {κ : Nat → ClassId} {η : Nat → Nat} {σ : (Nat → Nat) × (Nat → Nat)} {M : Sg} {a1 : Int32} {a2 : Int32} {a3 : Int32} {Q : Sg → Int32 → Prop} (h : wX9_routes M a1 a2 a3 Q) : Ki (cN σ) D (Ky κ) (mw κ η) l yX9_routes wsX9_routes rmX9_routes [.ref (η 0), .int a1, .int a2, .int a3] M Q := by
  refine ofW_g (Qc := fun A => Qi D (Ky κ) (mw κ η) A Q) (cc := cX9_routes) (maxL := 4) (ret := (some .int)) (by decide) rfl (Nat.le_of_ble_eq_true rfl) ?_
  intro p e s m args below meth c A ls X hr hlk hw hl
  have hl : lv_has ls 4 [(0, .ref (η 0)), (1, .int a1), (2, .int a2), (3, .int a3)] := hl
  refine lv_aload_n X.1 X.2.1 dX9_routes_0 rfl (lv_at hl 0 rfl) ?_
  refine lv_iconst (v := (0 : Int32)) X.1 X.2.1 dX9_routes_1 (by decide) ?_
  refine r_pf (ty := .int) (w' := mw κ η (sI M 0 (0 : Int32))) X inX9_routes_X9 tyX9_ok nmX9 hw 0 rfl rfl 0 (by decide) (X.2.2.2.2 (.fieldLink RX9 1 "TestHallModel" "thrown" "I") (by decide +kernel)) rfl rfl (by decide +kernel) rfl rfl (Nat.le_of_ble_eq_true rfl) rfl dX9_routes_2 (fun H locs hw => ?_)
  obtain ⟨M_1, eM_1⟩ : ∃ y : Sg, y = sI M 0 (0 : Int32) := ⟨_, rfl⟩
  rw [← eM_1] at hw
  have h := h M_1 eM_1
  refine lv_iload_n X.1 X.2.1 dX9_routes_5 rfl (lv_at hl 1 rfl) ?_
  refine lv_iload_n X.1 X.2.1 dX9_routes_6 rfl (lv_at hl 2 rfl) ?_
  refine lv_iload_n X.1 X.2.1 dX9_routes_7 rfl (lv_at hl 3 rfl) ?_
  refine r_Si (As := [.int a1, .int a2, .int a3]) (rest := []) X cN_ok (kX9_areNumbers h) (va_cwS 3 X.2.2.2.2 gX9_routes_X9_areNumbers rfl rfl rfl (by decide +kernel) ⟨Nat.le_of_ble_eq_true rfl, Nat.le_of_ble_eq_true rfl⟩) hw rfl hl.1 rfl (Nat.le_of_ble_eq_true rfl) dX9_routes_8 (fun r_3 M_2 H locs h hw => ?_)
  obtain ⟨ht_, hf_⟩ := h
  refine lv_if_eq (tgt := 25) X.1 X.2.1 dX9_routes_11 (by decide) (fun c_ => ?_) (fun c_ => ?_)
  · have h := ht_ c_
    refine lv_iconst (v := (-1 : Int32)) X.1 X.2.1 dX9_routes_25 (by decide) ?_
    exact r_ret X hr hlk hw h dX9_routes_26
  · have h := hf_ c_
    refine lv_aload_n X.1 X.2.1 dX9_routes_14 rfl (lv_at hl 0 rfl) ?_
    refine lv_iload_n X.1 X.2.1 dX9_routes_15 rfl (lv_at hl 1 rfl) ?_
    refine lv_iload_n X.1 X.2.1 dX9_routes_16 rfl (lv_at hl 2 rfl) ?_
    refine lv_iload_n X.1 X.2.1 dX9_routes_17 rfl (lv_at hl 3 rfl) ?_
    refine lv_iconst (v := (-1 : Int32)) X.1 X.2.1 dX9_routes_18 (by decide) ?_
    refine r_Vi (As := [.int a1, .int a2, .int a3, .int (-1 : Int32)]) (rest := []) X cN_ok (kX9_countAll h) (cwV 4 X.2.2.2.2 gX9_routes_X9_countAll rfl rfl rfl (by decide +kernel) ⟨Nat.le_of_ble_eq_true rfl, Nat.le_of_ble_eq_true rfl⟩) hw 0 8 rfl rfl rfl hl.1 rfl (Nat.le_of_ble_eq_true rfl) dX9_routes_19 (fun r_5 M_4 H locs h hw => ?_)
    refine lv_goto (tgt := 26) X.1 X.2.1 dX9_routes_22 (by decide) ?_
    exact r_ret X hr hlk hw h dX9_routes_26

theorem inX9_route_X9 : ∀ w ∈ wsX90, w ∈ wsX9_route := fun w h => List.mem_cons_of_mem _ (List.mem_append_right _ h)
abbrev rmX9_route : Room := { frames := 14, cells := 0, slots := 0, locals := 408 }
def wX9_route (M : Sg) (a1 : Int32) (a2 : Int32) (a3 : Int32) (a4 : Int32) (Q : Sg → Int32 → Prop) : Prop := (∀ (M_1 : Sg), M_1 = sI M 0 (0 : Int32) → (wX9_areNumbers M_1 a1 a2 a3 (fun M_2 r_3 => ((r_3 = 0 → (Q M_2 (-1 : Int32))) ∧ (¬ r_3 = 0 → ((0 ≤ a4 → (wX9_countAll M_2 a1 a2 a3 (-1 : Int32) (fun M_4 r_5 => ((¬ r_5 = 0 → (¬ r_5 = 0 ∧ (wX9_countAll M_4 a1 a2 a3 (a4 - a4 / r_5 * r_5) (fun M_6 r_7 => (Q M_6 (gI M_6 61)))))) ∧ (r_5 = 0 → (Q M_4 (-1 : Int32))))))) ∧ (¬ 0 ≤ a4 → (Q M_2 (-1 : Int32)))))))))
set_option maxHeartbeats 4000000 in
set_option maxRecDepth 100000 in
theorem kX9_route {l : Launch} {D : va_G} {κ : Nat → ClassId} {η : Nat → Nat} {σ : (Nat → Nat) × (Nat → Nat)} {M : Sg} {a1 : Int32} {a2 : Int32} {a3 : Int32} {a4 : Int32} {Q : Sg → Int32 → Prop} (h : wX9_route M a1 a2 a3 a4 Q) : Ki (cN σ) D (Ky κ) (mw κ η) l yX9_route wsX9_route rmX9_route [.ref (η 0), .int a1, .int a2, .int a3, .int a4] M Q := by
  refine ofW_g (Qc := fun A => Qi D (Ky κ) (mw κ η) A Q) (cc := cX9_route) (maxL := 7) (ret := (some .int)) (by decide) rfl (Nat.le_of_ble_eq_true rfl) ?_
  intro p e s m args below meth c A ls X hr hlk hw hl
  have hl : lv_has ls 7 [(0, .ref (η 0)), (1, .int a1), (2, .int a2), (3, .int a3), (4, .int a4)] := hl
  refine lv_aload_n X.1 X.2.1 dX9_route_0 rfl (lv_at hl 0 rfl) ?_
  refine lv_iconst (v := (0 : Int32)) X.1 X.2.1 dX9_route_1 (by decide) ?_
  refine r_pf (ty := .int) (w' := mw κ η (sI M 0 (0 : Int32))) X inX9_route_X9 tyX9_ok nmX9 hw 0 rfl rfl 0 (by decide) (X.2.2.2.2 (.fieldLink RX9 1 "TestHallModel" "thrown" "I") (by decide +kernel)) rfl rfl (by decide +kernel) rfl rfl (Nat.le_of_ble_eq_true rfl) rfl dX9_route_2 (fun H locs hw => ?_)
  obtain ⟨M_1, eM_1⟩ : ∃ y : Sg, y = sI M 0 (0 : Int32) := ⟨_, rfl⟩
  rw [← eM_1] at hw
  have h := h M_1 eM_1
  refine lv_iload_n X.1 X.2.1 dX9_route_5 rfl (lv_at hl 1 rfl) ?_
  refine lv_iload_n X.1 X.2.1 dX9_route_6 rfl (lv_at hl 2 rfl) ?_
  refine lv_iload_n X.1 X.2.1 dX9_route_7 rfl (lv_at hl 3 rfl) ?_
  refine r_Si (As := [.int a1, .int a2, .int a3]) (rest := []) X cN_ok (kX9_areNumbers h) (va_cwS 3 X.2.2.2.2 gX9_route_X9_areNumbers rfl rfl rfl (by decide +kernel) ⟨Nat.le_of_ble_eq_true rfl, Nat.le_of_ble_eq_true rfl⟩) hw rfl hl.1 rfl (Nat.le_of_ble_eq_true rfl) dX9_route_8 (fun r_3 M_2 H locs h hw => ?_)
  obtain ⟨ht_, hf_⟩ := h
  refine lv_if_eq (tgt := 19) X.1 X.2.1 dX9_route_11 (by decide) (fun c_ => ?_) (fun c_ => ?_)
  · have h := ht_ c_
    refine lv_iconst (v := (-1 : Int32)) X.1 X.2.1 dX9_route_19 (by decide) ?_
    exact r_ret X hr hlk hw h dX9_route_20
  · have h := hf_ c_
    refine lv_iload X.1 X.2.1 dX9_route_14 (lv_at hl 4 rfl) ?_
    obtain ⟨ht_, hf_⟩ := h
    refine lv_if_ge (tgt := 21) X.1 X.2.1 dX9_route_16 (by decide) (fun c_ => ?_) (fun c_ => ?_)
    · have h := ht_ c_
      refine lv_aload_n X.1 X.2.1 dX9_route_21 rfl (lv_at hl 0 rfl) ?_
      refine lv_iload_n X.1 X.2.1 dX9_route_22 rfl (lv_at hl 1 rfl) ?_
      refine lv_iload_n X.1 X.2.1 dX9_route_23 rfl (lv_at hl 2 rfl) ?_
      refine lv_iload_n X.1 X.2.1 dX9_route_24 rfl (lv_at hl 3 rfl) ?_
      refine lv_iconst (v := (-1 : Int32)) X.1 X.2.1 dX9_route_25 (by decide) ?_
      refine r_Vi (As := [.int a1, .int a2, .int a3, .int (-1 : Int32)]) (rest := []) X cN_ok (kX9_countAll h) (cwV 4 X.2.2.2.2 gX9_route_X9_countAll rfl rfl rfl (by decide +kernel) ⟨Nat.le_of_ble_eq_true rfl, Nat.le_of_ble_eq_true rfl⟩) hw 0 8 rfl rfl rfl hl.1 rfl (Nat.le_of_ble_eq_true rfl) dX9_route_26 (fun r_5 M_4 H locs h hw => ?_)
      refine lv_istore (lv' := [(5, .int r_5), (0, .ref (η 0)), (1, .int a1), (2, .int a2), (3, .int a3), (4, .int a4)]) X.1 X.2.1 dX9_route_29 hl (by decide) rfl (fun ls hl => ?_)
      refine lv_iload X.1 X.2.1 dX9_route_31 (lv_at hl 0 rfl) ?_
      obtain ⟨ht_, hf_⟩ := h
      refine lv_if_ne (tgt := 38) X.1 X.2.1 dX9_route_33 (by decide) (fun c_ => ?_) (fun c_ => ?_)
      · have h := ht_ c_
        refine lv_aload_n X.1 X.2.1 dX9_route_38 rfl (lv_at hl 1 rfl) ?_
        refine lv_iload_n X.1 X.2.1 dX9_route_39 rfl (lv_at hl 2 rfl) ?_
        refine lv_iload_n X.1 X.2.1 dX9_route_40 rfl (lv_at hl 3 rfl) ?_
        refine lv_iload_n X.1 X.2.1 dX9_route_41 rfl (lv_at hl 4 rfl) ?_
        refine lv_iload X.1 X.2.1 dX9_route_42 (lv_at hl 5 rfl) ?_
        refine lv_iload X.1 X.2.1 dX9_route_44 (lv_at hl 0 rfl) ?_
        obtain ⟨hz, h⟩ := h
        refine lv_irem X.1 X.2.1 dX9_route_46 hz ?_
        refine r_Vi (As := [.int a1, .int a2, .int a3, .int (a4 - a4 / r_5 * r_5)]) (rest := []) X cN_ok (kX9_countAll h) (cwV 4 X.2.2.2.2 gX9_route_X9_countAll rfl rfl rfl (by decide +kernel) ⟨Nat.le_of_ble_eq_true rfl, Nat.le_of_ble_eq_true rfl⟩) hw 0 8 rfl rfl rfl hl.1 rfl (Nat.le_of_ble_eq_true rfl) dX9_route_47 (fun r_7 M_6 H locs h hw => ?_)
        refine lv_istore (lv' := [(6, .int r_7), (5, .int r_5), (0, .ref (η 0)), (1, .int a1), (2, .int a2), (3, .int a3), (4, .int a4)]) X.1 X.2.1 dX9_route_50 hl (by decide) rfl (fun ls hl => ?_)
        refine lv_aload_n X.1 X.2.1 dX9_route_52 rfl (lv_at hl 2 rfl) ?_
        refine r_gf X inX9_route_X9 hw 0 rfl rfl 61 (by decide) (X.2.2.2.2 (.fieldLink RX9 345 "TestHallModel" "drawnMinutes" "I") (by decide +kernel)) rfl rfl dX9_route_53 ?_
        exact r_ret X hr hlk hw h dX9_route_56
      · have h := hf_ c_
        refine lv_iconst (v := (-1 : Int32)) X.1 X.2.1 dX9_route_36 (by decide) ?_
        exact r_ret X hr hlk hw h dX9_route_37
    · have h := hf_ c_
      refine lv_iconst (v := (-1 : Int32)) X.1 X.2.1 dX9_route_19 (by decide) ?_
      exact r_ret X hr hlk hw h dX9_route_20

theorem inX9_part__X9 : ∀ w ∈ wsX90, w ∈ wsX9_part_ := fun w h => List.mem_cons_of_mem _ (List.mem_append_right _ h)
abbrev rmX9_part_ : Room := { frames := 0, cells := 0, slots := 0, locals := 0 }
def wX9_part_ (M : Sg) (a1 : Int32) (Q : Sg → Int32 → Prop) : Prop := (∀ (M_1 : Sg), M_1 = sI M 0 (0 : Int32) → ((a1 < 0 → (Q M_1 (-1 : Int32))) ∧ (¬ a1 < 0 → ((a1 < (gI M_1 55) → (vp_in a1 8 ∧ (Q M_1 (gA M_1 54 a1.toNatClampNeg)))) ∧ (¬ a1 < (gI M_1 55) → (Q M_1 (-1 : Int32)))))))
set_option maxHeartbeats 4000000 in
set_option maxRecDepth 100000 in
theorem kX9_part_ {l : Launch} {D : va_G} {κ : Nat → ClassId} {η : Nat → Nat} {σ : (Nat → Nat) × (Nat → Nat)} {M : Sg} {a1 : Int32} {Q : Sg → Int32 → Prop} (h : wX9_part_ M a1 Q) : Ki (cN σ) D (Ky κ) (mw κ η) l yX9_part_ wsX9_part_ rmX9_part_ [.ref (η 0), .int a1] M Q := by
  refine ofW_g (Qc := fun A => Qi D (Ky κ) (mw κ η) A Q) (cc := cX9_part_) (maxL := 2) (ret := (some .int)) (by decide) rfl (Nat.le_of_ble_eq_true rfl) ?_
  intro p e s m args below meth c A ls X hr hlk hw hl
  have hl : lv_has ls 2 [(0, .ref (η 0)), (1, .int a1)] := hl
  refine lv_aload_n X.1 X.2.1 dX9_part__0 rfl (lv_at hl 0 rfl) ?_
  refine lv_iconst (v := (0 : Int32)) X.1 X.2.1 dX9_part__1 (by decide) ?_
  refine r_pf (ty := .int) (w' := mw κ η (sI M 0 (0 : Int32))) X inX9_part__X9 tyX9_ok nmX9 hw 0 rfl rfl 0 (by decide) (X.2.2.2.2 (.fieldLink RX9 1 "TestHallModel" "thrown" "I") (by decide +kernel)) rfl rfl (by decide +kernel) rfl rfl (Nat.le_of_ble_eq_true rfl) rfl dX9_part__2 (fun H locs hw => ?_)
  obtain ⟨M_1, eM_1⟩ : ∃ y : Sg, y = sI M 0 (0 : Int32) := ⟨_, rfl⟩
  rw [← eM_1] at hw
  have h := h M_1 eM_1
  refine lv_iload_n X.1 X.2.1 dX9_part__5 rfl (lv_at hl 1 rfl) ?_
  obtain ⟨ht_, hf_⟩ := h
  refine lv_if_lt (tgt := 17) X.1 X.2.1 dX9_part__6 (by decide) (fun c_ => ?_) (fun c_ => ?_)
  · have h := ht_ c_
    refine lv_iconst (v := (-1 : Int32)) X.1 X.2.1 dX9_part__17 (by decide) ?_
    refine lv_goto (tgt := 27) X.1 X.2.1 dX9_part__18 (by decide) ?_
    exact r_ret X hr hlk hw h dX9_part__27
  · have h := hf_ c_
    refine lv_iload_n X.1 X.2.1 dX9_part__9 rfl (lv_at hl 1 rfl) ?_
    refine lv_aload_n X.1 X.2.1 dX9_part__10 rfl (lv_at hl 0 rfl) ?_
    refine r_gf X inX9_part__X9 hw 0 rfl rfl 55 (by decide) (X.2.2.2.2 (.fieldLink RX9 342 "TestHallModel" "drawnMany" "I") (by decide +kernel)) rfl rfl dX9_part__11 ?_
    obtain ⟨ht_, hf_⟩ := h
    refine lv_icmp_lt (tgt := 21) X.1 X.2.1 dX9_part__14 (by decide) (fun c_ => ?_) (fun c_ => ?_)
    · have h := ht_ c_
      refine lv_aload_n X.1 X.2.1 dX9_part__21 rfl (lv_at hl 0 rfl) ?_
      refine r_gf X inX9_part__X9 hw 0 rfl rfl 54 (by decide) (X.2.2.2.2 (.fieldLink RX9 158 "TestHallModel" "drawn" "[I") (by decide +kernel)) rfl rfl dX9_part__22 ?_
      refine lv_iload_n X.1 X.2.1 dX9_part__25 rfl (lv_at hl 1 rfl) ?_
      obtain ⟨hi_, h⟩ := h
      refine r_ial X hw 40 0 rfl rfl hi_ dX9_part__26 ?_
      exact r_ret X hr hlk hw h dX9_part__27
    · have h := hf_ c_
      refine lv_iconst (v := (-1 : Int32)) X.1 X.2.1 dX9_part__17 (by decide) ?_
      refine lv_goto (tgt := 27) X.1 X.2.1 dX9_part__18 (by decide) ?_
      exact r_ret X hr hlk hw h dX9_part__27

theorem inX9_differs_X9 : ∀ w ∈ wsX90, w ∈ wsX9_differs := fun w h => List.mem_cons_of_mem _ (List.mem_append_right _ h)
abbrev rmX9_differs : Room := { frames := 0, cells := 0, slots := 0, locals := 0 }
def vX9_differs_88 (K38 : Sg → Int32 → Int32 → Int64 → Int64 → Int32 → Prop) (Q : Sg → Int32 → Prop) (M : Sg) (x1 : Int32) (x2 : Int32) (x3 : Int64) (x7 : Int32) (s0 : Int64) (s1 : Int64) : Prop := (∀ (x_1 : Int64), x_1 = (s1 + s0) → (∀ (x_2 : Int32), x_2 = x7 + (1 : Int32) → (K38 M x1 x2 x3 x_1 x_2)))
set_option maxHeartbeats 4000000 in
set_option maxRecDepth 100000 in
theorem bX9_differs_88 {p : Program} {l : Launch} {e : Env} {s : State} {m : MethodId} {args : Array Value} {below : List Frame} {meth : Method} {c : Code} {D : va_G} {κ : Nat → ClassId} {η : Nat → Nat} {σ : (Nat → Nat) × (Nat → Nat)} {A : Nat → Prop} {Q : Sg → Int32 → Prop} {K38 : Sg → Int32 → Int32 → Int64 → Int64 → Int32 → Prop} (X : CallFix p m c cX9_differs 11 s args wsX9_differs RX9) (hr : meth.sig.returnType = (some .int)) (hlk : meth.locks = false) (hK38 : ∀ (M : Sg) (x1 : Int32) (x2 : Int32) (x3 : Int64) (x5 : Int64) (x7 : Int32) (H : Heap) (locs : List Loc) (ls : Array Slot), K38 M x1 x2 x3 x5 x7 → Wd (cN σ) D (Ky κ) A s (mw κ η M) H locs → lv_has ls 11 [(0, .ref (η 0)), (1, .int x1), (2, .int x2), (3, .long x3), (5, .long x5), (7, .int x7)] → W p l e rmX9_differs s m args below meth c H locs 0 0 (MQ below (Qi D (Ky κ) (mw κ η) A Q) args s 0 0 A) (F0 m 38 ls [])) : ∀ (M : Sg) (x1 : Int32) (x2 : Int32) (x3 : Int64) (x7 : Int32) (s0 : Int64) (s1 : Int64) (H : Heap) (locs : List Loc) (ls : Array Slot), vX9_differs_88 K38 Q M x1 x2 x3 x7 s0 s1 → Wd (cN σ) D (Ky κ) A s (mw κ η M) H locs → lv_has ls 11 [(0, .ref (η 0)), (1, .int x1), (2, .int x2), (3, .long x3), (7, .int x7)] → W p l e rmX9_differs s m args below meth c H locs 0 0 (MQ below (Qi D (Ky κ) (mw κ η) A Q) args s 0 0 A) (F0 m 88 ls [.long s0, .long s1]) := by
  intro M x1 x2 x3 x7 s0 s1 H locs ls h hw hl
  refine lv_ladd X.1 X.2.1 dX9_differs_88 ?_
  refine lv_topl (fun x_1 ex_1 => ?_)
  have h := h x_1 ex_1
  refine lv_lstore (lv' := [(5, .long x_1), (0, .ref (η 0)), (1, .int x1), (2, .int x2), (3, .long x3), (7, .int x7)]) X.1 X.2.1 dX9_differs_89 hl (by decide) rfl (fun ls hl => ?_)
  obtain ⟨x_2, ex_2⟩ : ∃ y : Int32, y = x7 + (1 : Int32) := ⟨_, rfl⟩
  have h := h x_2 ex_2
  refine lv_iinc (v := x_2) (lv' := [(7, .int x_2), (5, .long x_1), (0, .ref (η 0)), (1, .int x1), (2, .int x2), (3, .long x3)]) X.1 X.2.1 dX9_differs_91 hl (k := 5) rfl (by rw [ex_2]; rfl) (by decide) rfl (fun ls hl => ?_)
  refine lv_goto (tgt := 38) X.1 X.2.1 dX9_differs_94 (by decide) ?_
  exact hK38 M x1 x2 x3 x_1 x_2 _ _ _ h hw (lv_sub hl [2, 3, 4, 5, 1, 0] rfl)
def vX9_differs_66 (K38 : Sg → Int32 → Int32 → Int64 → Int64 → Int32 → Prop) (Q : Sg → Int32 → Prop) (M : Sg) (x1 : Int32) (x2 : Int32) (x5 : Int64) (x7 : Int32) (s0 : Int64) (s1 : Int64) : Prop := (∀ (x_1 : Int64), x_1 = (s1 + s0) → ((¬ x7 = x1 → (vp_in x7 8 ∧ (vX9_differs_88 K38 Q M x1 x2 x_1 x7 ((gA M 29 x7.toNatClampNeg).toInt64) x5))) ∧ (x7 = x1 → (vX9_differs_88 K38 Q M x1 x2 x_1 x7 (0 : Int64) x5))))
set_option maxHeartbeats 4000000 in
set_option maxRecDepth 100000 in
theorem bX9_differs_66 {p : Program} {l : Launch} {e : Env} {s : State} {m : MethodId} {args : Array Value} {below : List Frame} {meth : Method} {c : Code} {D : va_G} {κ : Nat → ClassId} {η : Nat → Nat} {σ : (Nat → Nat) × (Nat → Nat)} {A : Nat → Prop} {Q : Sg → Int32 → Prop} {K38 : Sg → Int32 → Int32 → Int64 → Int64 → Int32 → Prop} (X : CallFix p m c cX9_differs 11 s args wsX9_differs RX9) (hr : meth.sig.returnType = (some .int)) (hlk : meth.locks = false) (hK38 : ∀ (M : Sg) (x1 : Int32) (x2 : Int32) (x3 : Int64) (x5 : Int64) (x7 : Int32) (H : Heap) (locs : List Loc) (ls : Array Slot), K38 M x1 x2 x3 x5 x7 → Wd (cN σ) D (Ky κ) A s (mw κ η M) H locs → lv_has ls 11 [(0, .ref (η 0)), (1, .int x1), (2, .int x2), (3, .long x3), (5, .long x5), (7, .int x7)] → W p l e rmX9_differs s m args below meth c H locs 0 0 (MQ below (Qi D (Ky κ) (mw κ η) A Q) args s 0 0 A) (F0 m 38 ls [])) : ∀ (M : Sg) (x1 : Int32) (x2 : Int32) (x5 : Int64) (x7 : Int32) (s0 : Int64) (s1 : Int64) (H : Heap) (locs : List Loc) (ls : Array Slot), vX9_differs_66 K38 Q M x1 x2 x5 x7 s0 s1 → Wd (cN σ) D (Ky κ) A s (mw κ η M) H locs → lv_has ls 11 [(0, .ref (η 0)), (1, .int x1), (2, .int x2), (5, .long x5), (7, .int x7)] → W p l e rmX9_differs s m args below meth c H locs 0 0 (MQ below (Qi D (Ky κ) (mw κ η) A Q) args s 0 0 A) (F0 m 66 ls [.long s0, .long s1]) := by
  intro M x1 x2 x5 x7 s0 s1 H locs ls h hw hl
  refine lv_ladd X.1 X.2.1 dX9_differs_66 ?_
  refine lv_topl (fun x_1 ex_1 => ?_)
  have h := h x_1 ex_1
  refine lv_lstore_n (lv' := [(3, .long x_1), (0, .ref (η 0)), (1, .int x1), (2, .int x2), (5, .long x5), (7, .int x7)]) X.1 X.2.1 dX9_differs_67 rfl hl (by decide) rfl (fun ls hl => ?_)
  refine lv_lload X.1 X.2.1 dX9_differs_68 (lv_at hl 4 rfl) ?_
  refine lv_iload X.1 X.2.1 dX9_differs_70 (lv_at hl 5 rfl) ?_
  refine lv_iload_n X.1 X.2.1 dX9_differs_72 rfl (lv_at hl 2 rfl) ?_
  obtain ⟨ht_, hf_⟩ := h
  refine lv_icmp_ne (tgt := 80) X.1 X.2.1 dX9_differs_73 (by decide) (fun c_ => ?_) (fun c_ => ?_)
  · have h := ht_ c_
    refine lv_aload_n X.1 X.2.1 dX9_differs_80 rfl (lv_at hl 1 rfl) ?_
    refine r_gf X inX9_differs_X9 hw 0 rfl rfl 29 (by decide) (X.2.2.2.2 (.fieldLink RX9 95 "TestHallModel" "passes" "[I") (by decide +kernel)) rfl rfl dX9_differs_81 ?_
    refine lv_iload X.1 X.2.1 dX9_differs_84 (lv_at hl 5 rfl) ?_
    obtain ⟨hi_, h⟩ := h
    refine r_ial X hw 19 0 rfl rfl hi_ dX9_differs_86 ?_
    refine lv_i2l (v := (gA M 29 x7.toNatClampNeg).toInt64) X.1 X.2.1 dX9_differs_87 rfl ?_
    exact bX9_differs_88 X hr hlk hK38 M x1 x2 x_1 x7 ((gA M 29 x7.toNatClampNeg).toInt64) x5 _ _ _ h hw (lv_sub hl [1, 2, 3, 0, 5] rfl)
  · have h := hf_ c_
    refine lv_lconst (v := (0 : Int64)) X.1 X.2.1 dX9_differs_76 (by decide) ?_
    refine lv_goto (tgt := 88) X.1 X.2.1 dX9_differs_77 (by decide) ?_
    exact bX9_differs_88 X hr hlk hK38 M x1 x2 x_1 x7 (0 : Int64) x5 _ _ _ h hw (lv_sub hl [1, 2, 3, 0, 5] rfl)
def vX9_differs_38 (Q : Sg → Int32 → Prop) : Nat → Sg → Int32 → Int32 → Int64 → Int64 → Int32 → Prop
  | 0, _, _, _, _, _, _ => False
  | f38_ + 1, M, x1, x2, x3, x5, x7 => (((gI M 25) ≤ x7 → (vp_in x1 8 ∧ (vp_in x1 8 ∧ (∀ (x_1 : Int64), x_1 = ((((gA M 29 x1.toNatClampNeg).toInt64 * x3) - (x5 * (gA M 28 x1.toNatClampNeg).toInt64)) * (100 : Int64)) → (vp_in x1 8 ∧ (∀ (x_2 : Int64), x_2 = ((x2 * (gA M 28 x1.toNatClampNeg)).toInt64 * x3) → (((lg_cmp x3 (0 : Int64)) = 0 → (Q M (0 : Int32))) ∧ (¬ (lg_cmp x3 (0 : Int64)) = 0 → (vp_in x1 8 ∧ ((¬ (gA M 28 x1.toNatClampNeg) = 0 → (((lg_cmp x_1 x_2) ≤ 0 → ((0 ≤ (lg_cmp x_1 (-x_2)) → (Q M (0 : Int32))) ∧ (¬ 0 ≤ (lg_cmp x_1 (-x_2)) → (Q M (-1 : Int32))))) ∧ (¬ (lg_cmp x_1 x_2) ≤ 0 → (Q M (1 : Int32))))) ∧ ((gA M 28 x1.toNatClampNeg) = 0 → (Q M (0 : Int32))))))))))))) ∧ (¬ (gI M 25) ≤ x7 → ((¬ x7 = x1 → (vp_in x7 8 ∧ (vX9_differs_66 (vX9_differs_38 Q f38_) Q M x1 x2 x5 x7 ((gA M 28 x7.toNatClampNeg).toInt64) x3))) ∧ (x7 = x1 → (vX9_differs_66 (vX9_differs_38 Q f38_) Q M x1 x2 x5 x7 (0 : Int64) x3)))))
set_option maxHeartbeats 4000000 in
set_option maxRecDepth 100000 in
theorem bX9_differs_38 {p : Program} {l : Launch} {e : Env} {s : State} {m : MethodId} {args : Array Value} {below : List Frame} {meth : Method} {c : Code} {D : va_G} {κ : Nat → ClassId} {η : Nat → Nat} {σ : (Nat → Nat) × (Nat → Nat)} {A : Nat → Prop} {Q : Sg → Int32 → Prop} (X : CallFix p m c cX9_differs 11 s args wsX9_differs RX9) (hr : meth.sig.returnType = (some .int)) (hlk : meth.locks = false) : ∀ (f_ : Nat) (M : Sg) (x1 : Int32) (x2 : Int32) (x3 : Int64) (x5 : Int64) (x7 : Int32) (H : Heap) (locs : List Loc) (ls : Array Slot), vX9_differs_38 Q f_ M x1 x2 x3 x5 x7 → Wd (cN σ) D (Ky κ) A s (mw κ η M) H locs → lv_has ls 11 [(0, .ref (η 0)), (1, .int x1), (2, .int x2), (3, .long x3), (5, .long x5), (7, .int x7)] → W p l e rmX9_differs s m args below meth c H locs 0 0 (MQ below (Qi D (Ky κ) (mw κ η) A Q) args s 0 0 A) (F0 m 38 ls []) := by
  intro f_
  induction f_ with
  | zero => intro M x1 x2 x3 x5 x7 H locs ls h; exact h.elim
  | succ f_ hK38 =>
    intro M x1 x2 x3 x5 x7 H locs ls h hw hl
    refine lv_iload X.1 X.2.1 dX9_differs_38 (lv_at hl 5 rfl) ?_
    refine lv_aload_n X.1 X.2.1 dX9_differs_40 rfl (lv_at hl 0 rfl) ?_
    refine r_gf X inX9_differs_X9 hw 0 rfl rfl 25 (by decide) (X.2.2.2.2 (.fieldLink RX9 249 "TestHallModel" "examiners" "I") (by decide +kernel)) rfl rfl dX9_differs_41 ?_
    obtain ⟨ht_, hf_⟩ := h
    refine lv_icmp_ge (tgt := 97) X.1 X.2.1 dX9_differs_44 (by decide) (fun c_ => ?_) (fun c_ => ?_)
    · have h := ht_ c_
      refine lv_aload_n X.1 X.2.1 dX9_differs_97 rfl (lv_at hl 0 rfl) ?_
      refine r_gf X inX9_differs_X9 hw 0 rfl rfl 29 (by decide) (X.2.2.2.2 (.fieldLink RX9 95 "TestHallModel" "passes" "[I") (by decide +kernel)) rfl rfl dX9_differs_98 ?_
      refine lv_iload_n X.1 X.2.1 dX9_differs_101 rfl (lv_at hl 1 rfl) ?_
      obtain ⟨hi_, h⟩ := h
      refine r_ial X hw 19 0 rfl rfl hi_ dX9_differs_102 ?_
      refine lv_i2l (v := (gA M 29 x1.toNatClampNeg).toInt64) X.1 X.2.1 dX9_differs_103 rfl ?_
      refine lv_lload_n X.1 X.2.1 dX9_differs_104 rfl (lv_at hl 3 rfl) ?_
      refine lv_lmul X.1 X.2.1 dX9_differs_105 ?_
      refine lv_lload X.1 X.2.1 dX9_differs_106 (lv_at hl 4 rfl) ?_
      refine lv_aload_n X.1 X.2.1 dX9_differs_108 rfl (lv_at hl 0 rfl) ?_
      refine r_gf X inX9_differs_X9 hw 0 rfl rfl 28 (by decide) (X.2.2.2.2 (.fieldLink RX9 92 "TestHallModel" "tests" "[I") (by decide +kernel)) rfl rfl dX9_differs_109 ?_
      refine lv_iload_n X.1 X.2.1 dX9_differs_112 rfl (lv_at hl 1 rfl) ?_
      obtain ⟨hi_, h⟩ := h
      refine r_ial X hw 18 0 rfl rfl hi_ dX9_differs_113 ?_
      refine lv_i2l (v := (gA M 28 x1.toNatClampNeg).toInt64) X.1 X.2.1 dX9_differs_114 rfl ?_
      refine lv_lmul X.1 X.2.1 dX9_differs_115 ?_
      refine lv_lsub X.1 X.2.1 dX9_differs_116 ?_
      refine lv_ldc2 (v := (100 : Int64)) X.1 X.2.1 X.2.2.2.1 (X.2.2.2.2 _ (by decide +kernel)) dX9_differs_117 ?_
      refine lv_lmul X.1 X.2.1 dX9_differs_120 ?_
      refine lv_topl (fun x_1 ex_1 => ?_)
      have h := h x_1 ex_1
      refine lv_lstore (lv' := [(7, .long x_1), (0, .ref (η 0)), (1, .int x1), (2, .int x2), (3, .long x3), (5, .long x5)]) X.1 X.2.1 dX9_differs_121 hl (by decide) rfl (fun ls hl => ?_)
      refine lv_iload_n X.1 X.2.1 dX9_differs_123 rfl (lv_at hl 3 rfl) ?_
      refine lv_aload_n X.1 X.2.1 dX9_differs_124 rfl (lv_at hl 1 rfl) ?_
      refine r_gf X inX9_differs_X9 hw 0 rfl rfl 28 (by decide) (X.2.2.2.2 (.fieldLink RX9 92 "TestHallModel" "tests" "[I") (by decide +kernel)) rfl rfl dX9_differs_125 ?_
      refine lv_iload_n X.1 X.2.1 dX9_differs_128 rfl (lv_at hl 2 rfl) ?_
      obtain ⟨hi_, h⟩ := h
      refine r_ial X hw 18 0 rfl rfl hi_ dX9_differs_129 ?_
      refine lv_imul X.1 X.2.1 dX9_differs_130 ?_
      refine lv_i2l (v := (x2 * (gA M 28 x1.toNatClampNeg)).toInt64) X.1 X.2.1 dX9_differs_131 rfl ?_
      refine lv_lload_n X.1 X.2.1 dX9_differs_132 rfl (lv_at hl 4 rfl) ?_
      refine lv_lmul X.1 X.2.1 dX9_differs_133 ?_
      refine lv_topl (fun x_2 ex_2 => ?_)
      have h := h x_2 ex_2
      refine lv_lstore (lv' := [(9, .long x_2), (7, .long x_1), (0, .ref (η 0)), (1, .int x1), (2, .int x2), (3, .long x3), (5, .long x5)]) X.1 X.2.1 dX9_differs_134 hl (by decide) rfl (fun ls hl => ?_)
      refine lv_lload_n X.1 X.2.1 dX9_differs_136 rfl (lv_at hl 5 rfl) ?_
      refine lv_lconst (v := (0 : Int64)) X.1 X.2.1 dX9_differs_137 (by decide) ?_
      refine W.lcmp X.1 X.2.1 dX9_differs_138 ?_
      obtain ⟨ht_, hf_⟩ := h
      refine lv_if_eq (tgt := 151) X.1 X.2.1 dX9_differs_139 (by decide) (fun c_ => ?_) (fun c_ => ?_)
      · have h := ht_ c_
        refine lv_iconst (v := (0 : Int32)) X.1 X.2.1 dX9_differs_151 (by decide) ?_
        refine lv_goto (tgt := 181) X.1 X.2.1 dX9_differs_152 (by decide) ?_
        exact r_ret X hr hlk hw h dX9_differs_181
      · have h := hf_ c_
        refine lv_aload_n X.1 X.2.1 dX9_differs_142 rfl (lv_at hl 2 rfl) ?_
        refine r_gf X inX9_differs_X9 hw 0 rfl rfl 28 (by decide) (X.2.2.2.2 (.fieldLink RX9 92 "TestHallModel" "tests" "[I") (by decide +kernel)) rfl rfl dX9_differs_143 ?_
        refine lv_iload_n X.1 X.2.1 dX9_differs_146 rfl (lv_at hl 3 rfl) ?_
        obtain ⟨hi_, h⟩ := h
        refine r_ial X hw 18 0 rfl rfl hi_ dX9_differs_147 ?_
        obtain ⟨ht_, hf_⟩ := h
        refine lv_if_ne (tgt := 155) X.1 X.2.1 dX9_differs_148 (by decide) (fun c_ => ?_) (fun c_ => ?_)
        · have h := ht_ c_
          refine lv_lload X.1 X.2.1 dX9_differs_155 (lv_at hl 1 rfl) ?_
          refine lv_lload X.1 X.2.1 dX9_differs_157 (lv_at hl 0 rfl) ?_
          refine W.lcmp X.1 X.2.1 dX9_differs_159 ?_
          obtain ⟨ht_, hf_⟩ := h
          refine lv_if_le (tgt := 167) X.1 X.2.1 dX9_differs_160 (by decide) (fun c_ => ?_) (fun c_ => ?_)
          · have h := ht_ c_
            refine lv_lload X.1 X.2.1 dX9_differs_167 (lv_at hl 1 rfl) ?_
            refine lv_lload X.1 X.2.1 dX9_differs_169 (lv_at hl 0 rfl) ?_
            refine lv_lneg X.1 X.2.1 dX9_differs_171 ?_
            refine W.lcmp X.1 X.2.1 dX9_differs_172 ?_
            obtain ⟨ht_, hf_⟩ := h
            refine lv_if_ge (tgt := 180) X.1 X.2.1 dX9_differs_173 (by decide) (fun c_ => ?_) (fun c_ => ?_)
            · have h := ht_ c_
              refine lv_iconst (v := (0 : Int32)) X.1 X.2.1 dX9_differs_180 (by decide) ?_
              exact r_ret X hr hlk hw h dX9_differs_181
            · have h := hf_ c_
              refine lv_iconst (v := (-1 : Int32)) X.1 X.2.1 dX9_differs_176 (by decide) ?_
              refine lv_goto (tgt := 181) X.1 X.2.1 dX9_differs_177 (by decide) ?_
              exact r_ret X hr hlk hw h dX9_differs_181
          · have h := hf_ c_
            refine lv_iconst (v := (1 : Int32)) X.1 X.2.1 dX9_differs_163 (by decide) ?_
            refine lv_goto (tgt := 181) X.1 X.2.1 dX9_differs_164 (by decide) ?_
            exact r_ret X hr hlk hw h dX9_differs_181
        · have h := hf_ c_
          refine lv_iconst (v := (0 : Int32)) X.1 X.2.1 dX9_differs_151 (by decide) ?_
          refine lv_goto (tgt := 181) X.1 X.2.1 dX9_differs_152 (by decide) ?_
          exact r_ret X hr hlk hw h dX9_differs_181
    · have h := hf_ c_
      refine lv_lload_n X.1 X.2.1 dX9_differs_47 rfl (lv_at hl 3 rfl) ?_
      refine lv_iload X.1 X.2.1 dX9_differs_48 (lv_at hl 5 rfl) ?_
      refine lv_iload_n X.1 X.2.1 dX9_differs_50 rfl (lv_at hl 1 rfl) ?_
      obtain ⟨ht_, hf_⟩ := h
      refine lv_icmp_ne (tgt := 58) X.1 X.2.1 dX9_differs_51 (by decide) (fun c_ => ?_) (fun c_ => ?_)
      · have h := ht_ c_
        refine lv_aload_n X.1 X.2.1 dX9_differs_58 rfl (lv_at hl 0 rfl) ?_
        refine r_gf X inX9_differs_X9 hw 0 rfl rfl 28 (by decide) (X.2.2.2.2 (.fieldLink RX9 92 "TestHallModel" "tests" "[I") (by decide +kernel)) rfl rfl dX9_differs_59 ?_
        refine lv_iload X.1 X.2.1 dX9_differs_62 (lv_at hl 5 rfl) ?_
        obtain ⟨hi_, h⟩ := h
        refine r_ial X hw 18 0 rfl rfl hi_ dX9_differs_64 ?_
        refine lv_i2l (v := (gA M 28 x7.toNatClampNeg).toInt64) X.1 X.2.1 dX9_differs_65 rfl ?_
        exact bX9_differs_66 X hr hlk hK38 M x1 x2 x5 x7 ((gA M 28 x7.toNatClampNeg).toInt64) x3 _ _ _ h hw (lv_sub hl [0, 1, 2, 4, 5] rfl)
      · have h := hf_ c_
        refine lv_lconst (v := (0 : Int64)) X.1 X.2.1 dX9_differs_54 (by decide) ?_
        refine lv_goto (tgt := 66) X.1 X.2.1 dX9_differs_55 (by decide) ?_
        exact bX9_differs_66 X hr hlk hK38 M x1 x2 x5 x7 (0 : Int64) x3 _ _ _ h hw (lv_sub hl [0, 1, 2, 4, 5] rfl)
def wX9_differs (M : Sg) (a1 : Int32) (a2 : Int32) (Q : Sg → Int32 → Prop) : Prop := (∀ (M_1 : Sg), M_1 = sI M 0 (0 : Int32) → ((a1 < 0 → (Q M_1 (-2 : Int32))) ∧ (¬ a1 < 0 → (((gI M_1 25) ≤ a1 → (Q M_1 (-2 : Int32))) ∧ (¬ (gI M_1 25) ≤ a1 → ((a2 < 0 → (Q M_1 (-2 : Int32))) ∧ (¬ a2 < 0 → ((a2 ≤ (100 : Int32) → (∃ g38_ : Nat, vX9_differs_38 Q g38_ M_1 a1 a2 (0 : Int64) (0 : Int64) (0 : Int32))) ∧ (¬ a2 ≤ (100 : Int32) → (Q M_1 (-2 : Int32)))))))))))
set_option maxHeartbeats 4000000 in
set_option maxRecDepth 100000 in
theorem kX9_differs {l : Launch} {D : va_G} {κ : Nat → ClassId} {η : Nat → Nat} {σ : (Nat → Nat) × (Nat → Nat)} {M : Sg} {a1 : Int32} {a2 : Int32} {Q : Sg → Int32 → Prop} (h : wX9_differs M a1 a2 Q) : Ki (cN σ) D (Ky κ) (mw κ η) l yX9_differs wsX9_differs rmX9_differs [.ref (η 0), .int a1, .int a2] M Q := by
  refine ofW_g (Qc := fun A => Qi D (Ky κ) (mw κ η) A Q) (cc := cX9_differs) (maxL := 11) (ret := (some .int)) (by decide) rfl (Nat.le_of_ble_eq_true rfl) ?_
  intro p e s m args below meth c A ls X hr hlk hw hl
  have hl : lv_has ls 11 [(0, .ref (η 0)), (1, .int a1), (2, .int a2)] := hl
  refine lv_aload_n X.1 X.2.1 dX9_differs_0 rfl (lv_at hl 0 rfl) ?_
  refine lv_iconst (v := (0 : Int32)) X.1 X.2.1 dX9_differs_1 (by decide) ?_
  refine r_pf (ty := .int) (w' := mw κ η (sI M 0 (0 : Int32))) X inX9_differs_X9 tyX9_ok nmX9 hw 0 rfl rfl 0 (by decide) (X.2.2.2.2 (.fieldLink RX9 1 "TestHallModel" "thrown" "I") (by decide +kernel)) rfl rfl (by decide +kernel) rfl rfl (Nat.le_of_ble_eq_true rfl) rfl dX9_differs_2 (fun H locs hw => ?_)
  obtain ⟨M_1, eM_1⟩ : ∃ y : Sg, y = sI M 0 (0 : Int32) := ⟨_, rfl⟩
  rw [← eM_1] at hw
  have h := h M_1 eM_1
  refine lv_iload_n X.1 X.2.1 dX9_differs_5 rfl (lv_at hl 1 rfl) ?_
  obtain ⟨ht_, hf_⟩ := h
  refine lv_if_lt (tgt := 27) X.1 X.2.1 dX9_differs_6 (by decide) (fun c_ => ?_) (fun c_ => ?_)
  · have h := ht_ c_
    refine lv_bipush (v := (-2 : Int32)) X.1 X.2.1 dX9_differs_27 (by decide) ?_
    exact r_ret X hr hlk hw h dX9_differs_29
  · have h := hf_ c_
    refine lv_iload_n X.1 X.2.1 dX9_differs_9 rfl (lv_at hl 1 rfl) ?_
    refine lv_aload_n X.1 X.2.1 dX9_differs_10 rfl (lv_at hl 0 rfl) ?_
    refine r_gf X inX9_differs_X9 hw 0 rfl rfl 25 (by decide) (X.2.2.2.2 (.fieldLink RX9 249 "TestHallModel" "examiners" "I") (by decide +kernel)) rfl rfl dX9_differs_11 ?_
    obtain ⟨ht_, hf_⟩ := h
    refine lv_icmp_ge (tgt := 27) X.1 X.2.1 dX9_differs_14 (by decide) (fun c_ => ?_) (fun c_ => ?_)
    · have h := ht_ c_
      refine lv_bipush (v := (-2 : Int32)) X.1 X.2.1 dX9_differs_27 (by decide) ?_
      exact r_ret X hr hlk hw h dX9_differs_29
    · have h := hf_ c_
      refine lv_iload_n X.1 X.2.1 dX9_differs_17 rfl (lv_at hl 2 rfl) ?_
      obtain ⟨ht_, hf_⟩ := h
      refine lv_if_lt (tgt := 27) X.1 X.2.1 dX9_differs_18 (by decide) (fun c_ => ?_) (fun c_ => ?_)
      · have h := ht_ c_
        refine lv_bipush (v := (-2 : Int32)) X.1 X.2.1 dX9_differs_27 (by decide) ?_
        exact r_ret X hr hlk hw h dX9_differs_29
      · have h := hf_ c_
        refine lv_iload_n X.1 X.2.1 dX9_differs_21 rfl (lv_at hl 2 rfl) ?_
        refine lv_bipush (v := (100 : Int32)) X.1 X.2.1 dX9_differs_22 (by decide) ?_
        obtain ⟨ht_, hf_⟩ := h
        refine lv_icmp_le (tgt := 30) X.1 X.2.1 dX9_differs_24 (by decide) (fun c_ => ?_) (fun c_ => ?_)
        · have h := ht_ c_
          refine lv_lconst (v := (0 : Int64)) X.1 X.2.1 dX9_differs_30 (by decide) ?_
          refine lv_lstore_n (lv' := [(3, .long (0 : Int64)), (0, .ref (η 0)), (1, .int a1), (2, .int a2)]) X.1 X.2.1 dX9_differs_31 rfl hl (by decide) rfl (fun ls hl => ?_)
          refine lv_lconst (v := (0 : Int64)) X.1 X.2.1 dX9_differs_32 (by decide) ?_
          refine lv_lstore (lv' := [(5, .long (0 : Int64)), (3, .long (0 : Int64)), (0, .ref (η 0)), (1, .int a1), (2, .int a2)]) X.1 X.2.1 dX9_differs_33 hl (by decide) rfl (fun ls hl => ?_)
          refine lv_iconst (v := (0 : Int32)) X.1 X.2.1 dX9_differs_35 (by decide) ?_
          refine lv_istore (lv' := [(7, .int (0 : Int32)), (5, .long (0 : Int64)), (3, .long (0 : Int64)), (0, .ref (η 0)), (1, .int a1), (2, .int a2)]) X.1 X.2.1 dX9_differs_36 hl (by decide) rfl (fun ls hl => ?_)
          obtain ⟨f_, h⟩ := h
          exact bX9_differs_38 X hr hlk f_ M_1 a1 a2 (0 : Int64) (0 : Int64) (0 : Int32) _ _ _ h hw (lv_sub hl [3, 4, 5, 2, 1, 0] rfl)
        · have h := hf_ c_
          refine lv_bipush (v := (-2 : Int32)) X.1 X.2.1 dX9_differs_27 (by decide) ?_
          exact r_ret X hr hlk hw h dX9_differs_29

theorem inX9_learnersThat_X9 : ∀ w ∈ wsX90, w ∈ wsX9_learnersThat := fun w h => List.mem_cons_of_mem _ (List.mem_append_right _ h)
abbrev rmX9_learnersThat : Room := { frames := 0, cells := 0, slots := 0, locals := 0 }
def vX9_learnersThat_28 (K4 : Sg → Int32 → Int32 → Int32 → Prop) (Q : Sg → Int32 → Prop) (M : Sg) (x1 : Int32) (x3 : Int32) (s0 : Int32) (s1 : Int32) : Prop := (∀ (x_1 : Int32), x_1 = (s1 + s0) → (∀ (x_2 : Int32), x_2 = x3 + (1 : Int32) → (K4 M x1 x_1 x_2)))
set_option maxHeartbeats 4000000 in
set_option maxRecDepth 100000 in
theorem bX9_learnersThat_28 {p : Program} {l : Launch} {e : Env} {s : State} {m : MethodId} {args : Array Value} {below : List Frame} {meth : Method} {c : Code} {D : va_G} {κ : Nat → ClassId} {η : Nat → Nat} {σ : (Nat → Nat) × (Nat → Nat)} {A : Nat → Prop} {Q : Sg → Int32 → Prop} {K4 : Sg → Int32 → Int32 → Int32 → Prop} (X : CallFix p m c cX9_learnersThat 4 s args wsX9_learnersThat RX9) (hr : meth.sig.returnType = (some .int)) (hlk : meth.locks = false) (hK4 : ∀ (M : Sg) (x1 : Int32) (x2 : Int32) (x3 : Int32) (H : Heap) (locs : List Loc) (ls : Array Slot), K4 M x1 x2 x3 → Wd (cN σ) D (Ky κ) A s (mw κ η M) H locs → lv_has ls 4 [(0, .ref (η 0)), (1, .int x1), (2, .int x2), (3, .int x3)] → W p l e rmX9_learnersThat s m args below meth c H locs 0 0 (MQ below (Qi D (Ky κ) (mw κ η) A Q) args s 0 0 A) (F0 m 4 ls [])) : ∀ (M : Sg) (x1 : Int32) (x3 : Int32) (s0 : Int32) (s1 : Int32) (H : Heap) (locs : List Loc) (ls : Array Slot), vX9_learnersThat_28 K4 Q M x1 x3 s0 s1 → Wd (cN σ) D (Ky κ) A s (mw κ η M) H locs → lv_has ls 4 [(0, .ref (η 0)), (1, .int x1), (3, .int x3)] → W p l e rmX9_learnersThat s m args below meth c H locs 0 0 (MQ below (Qi D (Ky κ) (mw κ η) A Q) args s 0 0 A) (F0 m 28 ls [.int s0, .int s1]) := by
  intro M x1 x3 s0 s1 H locs ls h hw hl
  refine lv_iadd X.1 X.2.1 dX9_learnersThat_28 ?_
  refine lv_topi (fun x_1 ex_1 => ?_)
  have h := h x_1 ex_1
  refine lv_istore_n (lv' := [(2, .int x_1), (0, .ref (η 0)), (1, .int x1), (3, .int x3)]) X.1 X.2.1 dX9_learnersThat_29 rfl hl (by decide) rfl (fun ls hl => ?_)
  obtain ⟨x_2, ex_2⟩ : ∃ y : Int32, y = x3 + (1 : Int32) := ⟨_, rfl⟩
  have h := h x_2 ex_2
  refine lv_iinc (v := x_2) (lv' := [(3, .int x_2), (2, .int x_1), (0, .ref (η 0)), (1, .int x1)]) X.1 X.2.1 dX9_learnersThat_30 hl (k := 3) rfl (by rw [ex_2]; rfl) (by decide) rfl (fun ls hl => ?_)
  refine lv_goto (tgt := 4) X.1 X.2.1 dX9_learnersThat_33 (by decide) ?_
  exact hK4 M x1 x_1 x_2 _ _ _ h hw (lv_sub hl [2, 3, 1, 0] rfl)
def vX9_learnersThat_4 (Q : Sg → Int32 → Prop) : Nat → Sg → Int32 → Int32 → Int32 → Prop
  | 0, _, _, _, _ => False
  | f4_ + 1, M, x1, x2, x3 => (((gI M 30) ≤ x3 → (Q M x2)) ∧ (¬ (gI M 30) ≤ x3 → (vp_in x3 60 ∧ ((¬ (gA M 38 x3.toNatClampNeg) = x1 → (vX9_learnersThat_28 (vX9_learnersThat_4 Q f4_) Q M x1 x3 (0 : Int32) x2)) ∧ ((gA M 38 x3.toNatClampNeg) = x1 → (vX9_learnersThat_28 (vX9_learnersThat_4 Q f4_) Q M x1 x3 (1 : Int32) x2))))))
set_option maxHeartbeats 4000000 in
set_option maxRecDepth 100000 in
theorem bX9_learnersThat_4 {p : Program} {l : Launch} {e : Env} {s : State} {m : MethodId} {args : Array Value} {below : List Frame} {meth : Method} {c : Code} {D : va_G} {κ : Nat → ClassId} {η : Nat → Nat} {σ : (Nat → Nat) × (Nat → Nat)} {A : Nat → Prop} {Q : Sg → Int32 → Prop} (X : CallFix p m c cX9_learnersThat 4 s args wsX9_learnersThat RX9) (hr : meth.sig.returnType = (some .int)) (hlk : meth.locks = false) : ∀ (f_ : Nat) (M : Sg) (x1 : Int32) (x2 : Int32) (x3 : Int32) (H : Heap) (locs : List Loc) (ls : Array Slot), vX9_learnersThat_4 Q f_ M x1 x2 x3 → Wd (cN σ) D (Ky κ) A s (mw κ η M) H locs → lv_has ls 4 [(0, .ref (η 0)), (1, .int x1), (2, .int x2), (3, .int x3)] → W p l e rmX9_learnersThat s m args below meth c H locs 0 0 (MQ below (Qi D (Ky κ) (mw κ η) A Q) args s 0 0 A) (F0 m 4 ls []) := by
  intro f_
  induction f_ with
  | zero => intro M x1 x2 x3 H locs ls h; exact h.elim
  | succ f_ hK4 =>
    intro M x1 x2 x3 H locs ls h hw hl
    refine lv_iload_n X.1 X.2.1 dX9_learnersThat_4 rfl (lv_at hl 3 rfl) ?_
    refine lv_aload_n X.1 X.2.1 dX9_learnersThat_5 rfl (lv_at hl 0 rfl) ?_
    refine r_gf X inX9_learnersThat_X9 hw 0 rfl rfl 30 (by decide) (X.2.2.2.2 (.fieldLink RX9 256 "TestHallModel" "learners" "I") (by decide +kernel)) rfl rfl dX9_learnersThat_6 ?_
    obtain ⟨ht_, hf_⟩ := h
    refine lv_icmp_ge (tgt := 36) X.1 X.2.1 dX9_learnersThat_9 (by decide) (fun c_ => ?_) (fun c_ => ?_)
    · have h := ht_ c_
      refine lv_iload_n X.1 X.2.1 dX9_learnersThat_36 rfl (lv_at hl 2 rfl) ?_
      exact r_ret X hr hlk hw h dX9_learnersThat_37
    · have h := hf_ c_
      refine lv_iload_n X.1 X.2.1 dX9_learnersThat_12 rfl (lv_at hl 2 rfl) ?_
      refine lv_aload_n X.1 X.2.1 dX9_learnersThat_13 rfl (lv_at hl 0 rfl) ?_
      refine r_gf X inX9_learnersThat_X9 hw 0 rfl rfl 38 (by decide) (X.2.2.2.2 (.fieldLink RX9 119 "TestHallModel" "state" "[I") (by decide +kernel)) rfl rfl dX9_learnersThat_14 ?_
      refine lv_iload_n X.1 X.2.1 dX9_learnersThat_17 rfl (lv_at hl 3 rfl) ?_
      obtain ⟨hi_, h⟩ := h
      refine r_ial X hw 27 0 rfl rfl hi_ dX9_learnersThat_18 ?_
      refine lv_iload_n X.1 X.2.1 dX9_learnersThat_19 rfl (lv_at hl 1 rfl) ?_
      obtain ⟨ht_, hf_⟩ := h
      refine lv_icmp_ne (tgt := 27) X.1 X.2.1 dX9_learnersThat_20 (by decide) (fun c_ => ?_) (fun c_ => ?_)
      · have h := ht_ c_
        refine lv_iconst (v := (0 : Int32)) X.1 X.2.1 dX9_learnersThat_27 (by decide) ?_
        exact bX9_learnersThat_28 X hr hlk hK4 M x1 x3 (0 : Int32) x2 _ _ _ h hw (lv_sub hl [0, 1, 3] rfl)
      · have h := hf_ c_
        refine lv_iconst (v := (1 : Int32)) X.1 X.2.1 dX9_learnersThat_23 (by decide) ?_
        refine lv_goto (tgt := 28) X.1 X.2.1 dX9_learnersThat_24 (by decide) ?_
        exact bX9_learnersThat_28 X hr hlk hK4 M x1 x3 (1 : Int32) x2 _ _ _ h hw (lv_sub hl [0, 1, 3] rfl)
def wX9_learnersThat (M : Sg) (a1 : Int32) (Q : Sg → Int32 → Prop) : Prop := (∃ g4_ : Nat, vX9_learnersThat_4 Q g4_ M a1 (0 : Int32) (0 : Int32))
set_option maxHeartbeats 4000000 in
set_option maxRecDepth 100000 in
theorem kX9_learnersThat {l : Launch} {D : va_G} {κ : Nat → ClassId} {η : Nat → Nat} {σ : (Nat → Nat) × (Nat → Nat)} {M : Sg} {a1 : Int32} {Q : Sg → Int32 → Prop} (h : wX9_learnersThat M a1 Q) : Ki (cN σ) D (Ky κ) (mw κ η) l yX9_learnersThat wsX9_learnersThat rmX9_learnersThat [.ref (η 0), .int a1] M Q := by
  refine ofW_g (Qc := fun A => Qi D (Ky κ) (mw κ η) A Q) (cc := cX9_learnersThat) (maxL := 4) (ret := (some .int)) (by decide) rfl (Nat.le_of_ble_eq_true rfl) ?_
  intro p e s m args below meth c A ls X hr hlk hw hl
  have hl : lv_has ls 4 [(0, .ref (η 0)), (1, .int a1)] := hl
  refine lv_iconst (v := (0 : Int32)) X.1 X.2.1 dX9_learnersThat_0 (by decide) ?_
  refine lv_istore_n (lv' := [(2, .int (0 : Int32)), (0, .ref (η 0)), (1, .int a1)]) X.1 X.2.1 dX9_learnersThat_1 rfl hl (by decide) rfl (fun ls hl => ?_)
  refine lv_iconst (v := (0 : Int32)) X.1 X.2.1 dX9_learnersThat_2 (by decide) ?_
  refine lv_istore_n (lv' := [(3, .int (0 : Int32)), (2, .int (0 : Int32)), (0, .ref (η 0)), (1, .int a1)]) X.1 X.2.1 dX9_learnersThat_3 rfl hl (by decide) rfl (fun ls hl => ?_)
  obtain ⟨f_, h⟩ := h
  exact bX9_learnersThat_4 X hr hlk f_ M a1 (0 : Int32) (0 : Int32) _ _ _ h hw (lv_sub hl [2, 3, 1, 0] rfl)

theorem inX9_count_X9 : ∀ w ∈ wsX90, w ∈ wsX9_count := fun w h => List.mem_cons_of_mem _ (List.mem_append_right _ h)
abbrev rmX9_count : Room := { frames := 1, cells := 0, slots := 0, locals := 23 }
def wX9_count (M : Sg) (a1 : Int32) (Q : Sg → Int32 → Prop) : Prop := (∀ (M_1 : Sg), M_1 = sI M 0 (0 : Int32) → ((a1 = (0 : Int32) → (Q M_1 (gI M_1 25))) ∧ (a1 = (1 : Int32) → (Q M_1 (gI M_1 30))) ∧ (a1 = (2 : Int32) → (Q M_1 (gI M_1 24))) ∧ (a1 = (3 : Int32) → (wX9_learnersThat M_1 (0 : Int32) (fun M_2 r_3 => (Q M_2 r_3)))) ∧ (a1 = (4 : Int32) → (wX9_learnersThat M_1 (1 : Int32) (fun M_4 r_5 => (Q M_4 r_5)))) ∧ (a1 = (5 : Int32) → (wX9_learnersThat M_1 (2 : Int32) (fun M_6 r_7 => (Q M_6 r_7)))) ∧ (a1 = (6 : Int32) → (wX9_learnersThat M_1 (3 : Int32) (fun M_8 r_9 => (Q M_8 r_9)))) ∧ (a1 = (7 : Int32) → (vp_in (gI M_1 15) 2 ∧ (Q M_1 (gA M_1 10 (gI M_1 15).toNatClampNeg)))) ∧ (a1 = (8 : Int32) → (Q M_1 (gI M_1 2))) ∧ (a1 = (9 : Int32) → (Q M_1 (gI M_1 45))) ∧ (a1 = (10 : Int32) → (Q M_1 (gI M_1 42))) ∧ ((¬ a1 = (0 : Int32) ∧ ¬ a1 = (1 : Int32) ∧ ¬ a1 = (2 : Int32) ∧ ¬ a1 = (3 : Int32) ∧ ¬ a1 = (4 : Int32) ∧ ¬ a1 = (5 : Int32) ∧ ¬ a1 = (6 : Int32) ∧ ¬ a1 = (7 : Int32) ∧ ¬ a1 = (8 : Int32) ∧ ¬ a1 = (9 : Int32) ∧ ¬ a1 = (10 : Int32)) → (Q M_1 (-1 : Int32)))))
set_option maxHeartbeats 4000000 in
set_option maxRecDepth 100000 in
theorem kX9_count {l : Launch} {D : va_G} {κ : Nat → ClassId} {η : Nat → Nat} {σ : (Nat → Nat) × (Nat → Nat)} {M : Sg} {a1 : Int32} {Q : Sg → Int32 → Prop} (h : wX9_count M a1 Q) : Ki (cN σ) D (Ky κ) (mw κ η) l yX9_count wsX9_count rmX9_count [.ref (η 0), .int a1] M Q := by
  refine ofW_g (Qc := fun A => Qi D (Ky κ) (mw κ η) A Q) (cc := cX9_count) (maxL := 2) (ret := (some .int)) (by decide) rfl (Nat.le_of_ble_eq_true rfl) ?_
  intro p e s m args below meth c A ls X hr hlk hw hl
  have hl : lv_has ls 2 [(0, .ref (η 0)), (1, .int a1)] := hl
  refine lv_aload_n X.1 X.2.1 dX9_count_0 rfl (lv_at hl 0 rfl) ?_
  refine lv_iconst (v := (0 : Int32)) X.1 X.2.1 dX9_count_1 (by decide) ?_
  refine r_pf (ty := .int) (w' := mw κ η (sI M 0 (0 : Int32))) X inX9_count_X9 tyX9_ok nmX9 hw 0 rfl rfl 0 (by decide) (X.2.2.2.2 (.fieldLink RX9 1 "TestHallModel" "thrown" "I") (by decide +kernel)) rfl rfl (by decide +kernel) rfl rfl (Nat.le_of_ble_eq_true rfl) rfl dX9_count_2 (fun H locs hw => ?_)
  obtain ⟨M_1, eM_1⟩ : ∃ y : Sg, y = sI M 0 (0 : Int32) := ⟨_, rfl⟩
  rw [← eM_1] at hw
  have h := h M_1 eM_1
  refine lv_iload_n X.1 X.2.1 dX9_count_5 rfl (lv_at hl 1 rfl) ?_
  obtain ⟨hs0_, hs1_, hs2_, hs3_, hs4_, hs5_, hs6_, hs7_, hs8_, hs9_, hs10_, hd_⟩ := h
  by_cases cs0_ : a1 = (0 : Int32)
  · have h := hs0_ cs0_
    refine lv_tableIn (tgt := 64) (off := (58)) X.1 X.2.1 dX9_count_6 (by rw [cs0_]; decide) (by rw [cs0_]; decide) (by rw [cs0_]; decide) (by decide) ?_
    refine lv_aload_n X.1 X.2.1 dX9_count_64 rfl (lv_at hl 0 rfl) ?_
    refine r_gf X inX9_count_X9 hw 0 rfl rfl 25 (by decide) (X.2.2.2.2 (.fieldLink RX9 249 "TestHallModel" "examiners" "I") (by decide +kernel)) rfl rfl dX9_count_65 ?_
    exact r_ret X hr hlk hw h dX9_count_68
  by_cases cs1_ : a1 = (1 : Int32)
  · have h := hs1_ cs1_
    refine lv_tableIn (tgt := 69) (off := (63)) X.1 X.2.1 dX9_count_6 (by rw [cs1_]; decide) (by rw [cs1_]; decide) (by rw [cs1_]; decide) (by decide) ?_
    refine lv_aload_n X.1 X.2.1 dX9_count_69 rfl (lv_at hl 0 rfl) ?_
    refine r_gf X inX9_count_X9 hw 0 rfl rfl 30 (by decide) (X.2.2.2.2 (.fieldLink RX9 256 "TestHallModel" "learners" "I") (by decide +kernel)) rfl rfl dX9_count_70 ?_
    exact r_ret X hr hlk hw h dX9_count_73
  by_cases cs2_ : a1 = (2 : Int32)
  · have h := hs2_ cs2_
    refine lv_tableIn (tgt := 74) (off := (68)) X.1 X.2.1 dX9_count_6 (by rw [cs2_]; decide) (by rw [cs2_]; decide) (by rw [cs2_]; decide) (by decide) ?_
    refine lv_aload_n X.1 X.2.1 dX9_count_74 rfl (lv_at hl 0 rfl) ?_
    refine r_gf X inX9_count_X9 hw 0 rfl rfl 24 (by decide) (X.2.2.2.2 (.fieldLink RX9 259 "TestHallModel" "now" "I") (by decide +kernel)) rfl rfl dX9_count_75 ?_
    exact r_ret X hr hlk hw h dX9_count_78
  by_cases cs3_ : a1 = (3 : Int32)
  · have h := hs3_ cs3_
    refine lv_tableIn (tgt := 79) (off := (73)) X.1 X.2.1 dX9_count_6 (by rw [cs3_]; decide) (by rw [cs3_]; decide) (by rw [cs3_]; decide) (by decide) ?_
    refine lv_aload_n X.1 X.2.1 dX9_count_79 rfl (lv_at hl 0 rfl) ?_
    refine lv_iconst (v := (0 : Int32)) X.1 X.2.1 dX9_count_80 (by decide) ?_
    refine r_Vi (As := [.int (0 : Int32)]) (rest := []) X cN_ok (kX9_learnersThat h) (cwV 1 X.2.2.2.2 gX9_count_X9_learnersThat rfl rfl rfl (by decide +kernel) ⟨Nat.le_of_ble_eq_true rfl, Nat.le_of_ble_eq_true rfl⟩) hw 0 8 rfl rfl rfl hl.1 rfl (Nat.le_of_ble_eq_true rfl) dX9_count_81 (fun r_3 M_2 H locs h hw => ?_)
    exact r_ret X hr hlk hw h dX9_count_84
  by_cases cs4_ : a1 = (4 : Int32)
  · have h := hs4_ cs4_
    refine lv_tableIn (tgt := 85) (off := (79)) X.1 X.2.1 dX9_count_6 (by rw [cs4_]; decide) (by rw [cs4_]; decide) (by rw [cs4_]; decide) (by decide) ?_
    refine lv_aload_n X.1 X.2.1 dX9_count_85 rfl (lv_at hl 0 rfl) ?_
    refine lv_iconst (v := (1 : Int32)) X.1 X.2.1 dX9_count_86 (by decide) ?_
    refine r_Vi (As := [.int (1 : Int32)]) (rest := []) X cN_ok (kX9_learnersThat h) (cwV 1 X.2.2.2.2 gX9_count_X9_learnersThat rfl rfl rfl (by decide +kernel) ⟨Nat.le_of_ble_eq_true rfl, Nat.le_of_ble_eq_true rfl⟩) hw 0 8 rfl rfl rfl hl.1 rfl (Nat.le_of_ble_eq_true rfl) dX9_count_87 (fun r_5 M_4 H locs h hw => ?_)
    exact r_ret X hr hlk hw h dX9_count_90
  by_cases cs5_ : a1 = (5 : Int32)
  · have h := hs5_ cs5_
    refine lv_tableIn (tgt := 91) (off := (85)) X.1 X.2.1 dX9_count_6 (by rw [cs5_]; decide) (by rw [cs5_]; decide) (by rw [cs5_]; decide) (by decide) ?_
    refine lv_aload_n X.1 X.2.1 dX9_count_91 rfl (lv_at hl 0 rfl) ?_
    refine lv_iconst (v := (2 : Int32)) X.1 X.2.1 dX9_count_92 (by decide) ?_
    refine r_Vi (As := [.int (2 : Int32)]) (rest := []) X cN_ok (kX9_learnersThat h) (cwV 1 X.2.2.2.2 gX9_count_X9_learnersThat rfl rfl rfl (by decide +kernel) ⟨Nat.le_of_ble_eq_true rfl, Nat.le_of_ble_eq_true rfl⟩) hw 0 8 rfl rfl rfl hl.1 rfl (Nat.le_of_ble_eq_true rfl) dX9_count_93 (fun r_7 M_6 H locs h hw => ?_)
    exact r_ret X hr hlk hw h dX9_count_96
  by_cases cs6_ : a1 = (6 : Int32)
  · have h := hs6_ cs6_
    refine lv_tableIn (tgt := 97) (off := (91)) X.1 X.2.1 dX9_count_6 (by rw [cs6_]; decide) (by rw [cs6_]; decide) (by rw [cs6_]; decide) (by decide) ?_
    refine lv_aload_n X.1 X.2.1 dX9_count_97 rfl (lv_at hl 0 rfl) ?_
    refine lv_iconst (v := (3 : Int32)) X.1 X.2.1 dX9_count_98 (by decide) ?_
    refine r_Vi (As := [.int (3 : Int32)]) (rest := []) X cN_ok (kX9_learnersThat h) (cwV 1 X.2.2.2.2 gX9_count_X9_learnersThat rfl rfl rfl (by decide +kernel) ⟨Nat.le_of_ble_eq_true rfl, Nat.le_of_ble_eq_true rfl⟩) hw 0 8 rfl rfl rfl hl.1 rfl (Nat.le_of_ble_eq_true rfl) dX9_count_99 (fun r_9 M_8 H locs h hw => ?_)
    exact r_ret X hr hlk hw h dX9_count_102
  by_cases cs7_ : a1 = (7 : Int32)
  · have h := hs7_ cs7_
    refine lv_tableIn (tgt := 103) (off := (97)) X.1 X.2.1 dX9_count_6 (by rw [cs7_]; decide) (by rw [cs7_]; decide) (by rw [cs7_]; decide) (by decide) ?_
    refine lv_aload_n X.1 X.2.1 dX9_count_103 rfl (lv_at hl 0 rfl) ?_
    refine r_gf X inX9_count_X9 hw 0 rfl rfl 10 (by decide) (X.2.2.2.2 (.fieldLink RX9 55 "TestHallModel" "lines" "[I") (by decide +kernel)) rfl rfl dX9_count_104 ?_
    refine lv_aload_n X.1 X.2.1 dX9_count_107 rfl (lv_at hl 0 rfl) ?_
    refine r_gf X inX9_count_X9 hw 0 rfl rfl 15 (by decide) (X.2.2.2.2 (.fieldLink RX9 211 "TestHallModel" "holds" "I") (by decide +kernel)) rfl rfl dX9_count_108 ?_
    obtain ⟨hi_, h⟩ := h
    refine r_ial X hw 6 0 rfl rfl hi_ dX9_count_111 ?_
    exact r_ret X hr hlk hw h dX9_count_112
  by_cases cs8_ : a1 = (8 : Int32)
  · have h := hs8_ cs8_
    refine lv_tableIn (tgt := 113) (off := (107)) X.1 X.2.1 dX9_count_6 (by rw [cs8_]; decide) (by rw [cs8_]; decide) (by rw [cs8_]; decide) (by decide) ?_
    refine lv_aload_n X.1 X.2.1 dX9_count_113 rfl (lv_at hl 0 rfl) ?_
    refine r_gf X inX9_count_X9 hw 0 rfl rfl 2 (by decide) (X.2.2.2.2 (.fieldLink RX9 11 "TestHallModel" "taped" "I") (by decide +kernel)) rfl rfl dX9_count_114 ?_
    exact r_ret X hr hlk hw h dX9_count_117
  by_cases cs9_ : a1 = (9 : Int32)
  · have h := hs9_ cs9_
    refine lv_tableIn (tgt := 118) (off := (112)) X.1 X.2.1 dX9_count_6 (by rw [cs9_]; decide) (by rw [cs9_]; decide) (by rw [cs9_]; decide) (by decide) ?_
    refine lv_aload_n X.1 X.2.1 dX9_count_118 rfl (lv_at hl 0 rfl) ?_
    refine r_gf X inX9_count_X9 hw 0 rfl rfl 45 (by decide) (X.2.2.2.2 (.fieldLink RX9 311 "TestHallModel" "streets" "I") (by decide +kernel)) rfl rfl dX9_count_119 ?_
    exact r_ret X hr hlk hw h dX9_count_122
  by_cases cs10_ : a1 = (10 : Int32)
  · have h := hs10_ cs10_
    refine lv_tableIn (tgt := 123) (off := (117)) X.1 X.2.1 dX9_count_6 (by rw [cs10_]; decide) (by rw [cs10_]; decide) (by rw [cs10_]; decide) (by decide) ?_
    refine lv_aload_n X.1 X.2.1 dX9_count_123 rfl (lv_at hl 0 rfl) ?_
    refine r_gf X inX9_count_X9 hw 0 rfl rfl 42 (by decide) (X.2.2.2.2 (.fieldLink RX9 305 "TestHallModel" "held" "I") (by decide +kernel)) rfl rfl dX9_count_124 ?_
    exact r_ret X hr hlk hw h dX9_count_127
  have h := hd_ ⟨cs0_, cs1_, cs2_, cs3_, cs4_, cs5_, cs6_, cs7_, cs8_, cs9_, cs10_⟩
  have cn0_ : ¬ (a1).toInt = 0 := fun q => cs0_ (Int32.toInt_inj.mp (q.trans (by decide)))
  have cn1_ : ¬ (a1).toInt = 1 := fun q => cs1_ (Int32.toInt_inj.mp (q.trans (by decide)))
  have cn2_ : ¬ (a1).toInt = 2 := fun q => cs2_ (Int32.toInt_inj.mp (q.trans (by decide)))
  have cn3_ : ¬ (a1).toInt = 3 := fun q => cs3_ (Int32.toInt_inj.mp (q.trans (by decide)))
  have cn4_ : ¬ (a1).toInt = 4 := fun q => cs4_ (Int32.toInt_inj.mp (q.trans (by decide)))
  have cn5_ : ¬ (a1).toInt = 5 := fun q => cs5_ (Int32.toInt_inj.mp (q.trans (by decide)))
  have cn6_ : ¬ (a1).toInt = 6 := fun q => cs6_ (Int32.toInt_inj.mp (q.trans (by decide)))
  have cn7_ : ¬ (a1).toInt = 7 := fun q => cs7_ (Int32.toInt_inj.mp (q.trans (by decide)))
  have cn8_ : ¬ (a1).toInt = 8 := fun q => cs8_ (Int32.toInt_inj.mp (q.trans (by decide)))
  have cn9_ : ¬ (a1).toInt = 9 := fun q => cs9_ (Int32.toInt_inj.mp (q.trans (by decide)))
  have cn10_ : ¬ (a1).toInt = 10 := fun q => cs10_ (Int32.toInt_inj.mp (q.trans (by decide)))
  refine lv_tableOut (tgt := 128) X.1 X.2.1 dX9_count_6 (by omega) (by decide) ?_
  refine lv_iconst (v := (-1 : Int32)) X.1 X.2.1 dX9_count_128 (by decide) ?_
  exact r_ret X hr hlk hw h dX9_count_129

theorem inX9_load_X9 : ∀ w ∈ wsX90, w ∈ wsX9_load := fun w h => List.mem_cons_of_mem _ (List.mem_append_right _ h)
abbrev rmX9_load : Room := { frames := 0, cells := 0, slots := 0, locals := 0 }
def vX9_load_64 (K24 : Sg → Int32 → Int32 → Int32 → Int32 → Prop) (Q : Sg → Int32 → Prop) (M : Sg) (x1 : Int32) (x2 : Int32) (x4 : Int32) (s0 : Int32) (s1 : Int32) : Prop := (∀ (x_1 : Int32), x_1 = (s1 + s0) → (∀ (x_2 : Int32), x_2 = x4 + (1 : Int32) → (K24 M x1 x2 x_1 x_2)))
set_option maxHeartbeats 4000000 in
set_option maxRecDepth 100000 in
theorem bX9_load_64 {p : Program} {l : Launch} {e : Env} {s : State} {m : MethodId} {args : Array Value} {below : List Frame} {meth : Method} {c : Code} {D : va_G} {κ : Nat → ClassId} {η : Nat → Nat} {σ : (Nat → Nat) × (Nat → Nat)} {A : Nat → Prop} {Q : Sg → Int32 → Prop} {K24 : Sg → Int32 → Int32 → Int32 → Int32 → Prop} (X : CallFix p m c cX9_load 5 s args wsX9_load RX9) (hr : meth.sig.returnType = (some .int)) (hlk : meth.locks = false) (hK24 : ∀ (M : Sg) (x1 : Int32) (x2 : Int32) (x3 : Int32) (x4 : Int32) (H : Heap) (locs : List Loc) (ls : Array Slot), K24 M x1 x2 x3 x4 → Wd (cN σ) D (Ky κ) A s (mw κ η M) H locs → lv_has ls 5 [(0, .ref (η 0)), (1, .int x1), (2, .int x2), (3, .int x3), (4, .int x4)] → W p l e rmX9_load s m args below meth c H locs 0 0 (MQ below (Qi D (Ky κ) (mw κ η) A Q) args s 0 0 A) (F0 m 24 ls [])) : ∀ (M : Sg) (x1 : Int32) (x2 : Int32) (x4 : Int32) (s0 : Int32) (s1 : Int32) (H : Heap) (locs : List Loc) (ls : Array Slot), vX9_load_64 K24 Q M x1 x2 x4 s0 s1 → Wd (cN σ) D (Ky κ) A s (mw κ η M) H locs → lv_has ls 5 [(0, .ref (η 0)), (1, .int x1), (2, .int x2), (4, .int x4)] → W p l e rmX9_load s m args below meth c H locs 0 0 (MQ below (Qi D (Ky κ) (mw κ η) A Q) args s 0 0 A) (F0 m 64 ls [.int s0, .int s1]) := by
  intro M x1 x2 x4 s0 s1 H locs ls h hw hl
  refine lv_iadd X.1 X.2.1 dX9_load_64 ?_
  refine lv_topi (fun x_1 ex_1 => ?_)
  have h := h x_1 ex_1
  refine lv_istore_n (lv' := [(3, .int x_1), (0, .ref (η 0)), (1, .int x1), (2, .int x2), (4, .int x4)]) X.1 X.2.1 dX9_load_65 rfl hl (by decide) rfl (fun ls hl => ?_)
  obtain ⟨x_2, ex_2⟩ : ∃ y : Int32, y = x4 + (1 : Int32) := ⟨_, rfl⟩
  have h := h x_2 ex_2
  refine lv_iinc (v := x_2) (lv' := [(4, .int x_2), (3, .int x_1), (0, .ref (η 0)), (1, .int x1), (2, .int x2)]) X.1 X.2.1 dX9_load_66 hl (k := 4) rfl (by rw [ex_2]; rfl) (by decide) rfl (fun ls hl => ?_)
  refine lv_goto (tgt := 24) X.1 X.2.1 dX9_load_69 (by decide) ?_
  exact hK24 M x1 x2 x_1 x_2 _ _ _ h hw (lv_sub hl [2, 3, 4, 1, 0] rfl)
def vX9_load_63 (K24 : Sg → Int32 → Int32 → Int32 → Int32 → Prop) (Q : Sg → Int32 → Prop) (M : Sg) (x1 : Int32) (x2 : Int32) (x4 : Int32) (s0 : Int32) : Prop := (vX9_load_64 K24 Q M x1 x2 x4 (0 : Int32) s0)
set_option maxHeartbeats 4000000 in
set_option maxRecDepth 100000 in
theorem bX9_load_63 {p : Program} {l : Launch} {e : Env} {s : State} {m : MethodId} {args : Array Value} {below : List Frame} {meth : Method} {c : Code} {D : va_G} {κ : Nat → ClassId} {η : Nat → Nat} {σ : (Nat → Nat) × (Nat → Nat)} {A : Nat → Prop} {Q : Sg → Int32 → Prop} {K24 : Sg → Int32 → Int32 → Int32 → Int32 → Prop} (X : CallFix p m c cX9_load 5 s args wsX9_load RX9) (hr : meth.sig.returnType = (some .int)) (hlk : meth.locks = false) (hK24 : ∀ (M : Sg) (x1 : Int32) (x2 : Int32) (x3 : Int32) (x4 : Int32) (H : Heap) (locs : List Loc) (ls : Array Slot), K24 M x1 x2 x3 x4 → Wd (cN σ) D (Ky κ) A s (mw κ η M) H locs → lv_has ls 5 [(0, .ref (η 0)), (1, .int x1), (2, .int x2), (3, .int x3), (4, .int x4)] → W p l e rmX9_load s m args below meth c H locs 0 0 (MQ below (Qi D (Ky κ) (mw κ η) A Q) args s 0 0 A) (F0 m 24 ls [])) : ∀ (M : Sg) (x1 : Int32) (x2 : Int32) (x4 : Int32) (s0 : Int32) (H : Heap) (locs : List Loc) (ls : Array Slot), vX9_load_63 K24 Q M x1 x2 x4 s0 → Wd (cN σ) D (Ky κ) A s (mw κ η M) H locs → lv_has ls 5 [(0, .ref (η 0)), (1, .int x1), (2, .int x2), (4, .int x4)] → W p l e rmX9_load s m args below meth c H locs 0 0 (MQ below (Qi D (Ky κ) (mw κ η) A Q) args s 0 0 A) (F0 m 63 ls [.int s0]) := by
  intro M x1 x2 x4 s0 H locs ls h hw hl
  refine lv_iconst (v := (0 : Int32)) X.1 X.2.1 dX9_load_63 (by decide) ?_
  exact bX9_load_64 X hr hlk hK24 M x1 x2 x4 (0 : Int32) s0 _ _ _ h hw (lv_sub hl [0, 1, 2, 3] rfl)
def vX9_load_24 (Q : Sg → Int32 → Prop) : Nat → Sg → Int32 → Int32 → Int32 → Int32 → Prop
  | 0, _, _, _, _, _ => False
  | f24_ + 1, M, x1, x2, x3, x4 => (((gI M 30) ≤ x4 → ((¬ x2 = 0 → ((¬ x2 = (1 : Int32) → ((¬ x2 = (2 : Int32) → (Q M (-1 : Int32))) ∧ (x2 = (2 : Int32) → (Q M x3)))) ∧ (x2 = (1 : Int32) → (vp_in x1 8 ∧ (Q M (gA M 29 x1.toNatClampNeg)))))) ∧ (x2 = 0 → (vp_in x1 8 ∧ (Q M (gA M 28 x1.toNatClampNeg)))))) ∧ (¬ (gI M 30) ≤ x4 → (vp_in x4 60 ∧ ((¬ (gA M 38 x4.toNatClampNeg) = (1 : Int32) → (vX9_load_63 (vX9_load_24 Q f24_) Q M x1 x2 x4 x3)) ∧ ((gA M 38 x4.toNatClampNeg) = (1 : Int32) → (vp_in x4 60 ∧ ((¬ ((gA M 39 x4.toNatClampNeg) - (gA M 39 x4.toNatClampNeg) / (8 : Int32) * (8 : Int32)) = x1 → (vX9_load_63 (vX9_load_24 Q f24_) Q M x1 x2 x4 x3)) ∧ (((gA M 39 x4.toNatClampNeg) - (gA M 39 x4.toNatClampNeg) / (8 : Int32) * (8 : Int32)) = x1 → (vX9_load_64 (vX9_load_24 Q f24_) Q M x1 x2 x4 (1 : Int32) x3)))))))))
set_option maxHeartbeats 4000000 in
set_option maxRecDepth 100000 in
theorem bX9_load_24 {p : Program} {l : Launch} {e : Env} {s : State} {m : MethodId} {args : Array Value} {below : List Frame} {meth : Method} {c : Code} {D : va_G} {κ : Nat → ClassId} {η : Nat → Nat} {σ : (Nat → Nat) × (Nat → Nat)} {A : Nat → Prop} {Q : Sg → Int32 → Prop} (X : CallFix p m c cX9_load 5 s args wsX9_load RX9) (hr : meth.sig.returnType = (some .int)) (hlk : meth.locks = false) : ∀ (f_ : Nat) (M : Sg) (x1 : Int32) (x2 : Int32) (x3 : Int32) (x4 : Int32) (H : Heap) (locs : List Loc) (ls : Array Slot), vX9_load_24 Q f_ M x1 x2 x3 x4 → Wd (cN σ) D (Ky κ) A s (mw κ η M) H locs → lv_has ls 5 [(0, .ref (η 0)), (1, .int x1), (2, .int x2), (3, .int x3), (4, .int x4)] → W p l e rmX9_load s m args below meth c H locs 0 0 (MQ below (Qi D (Ky κ) (mw κ η) A Q) args s 0 0 A) (F0 m 24 ls []) := by
  intro f_
  induction f_ with
  | zero => intro M x1 x2 x3 x4 H locs ls h; exact h.elim
  | succ f_ hK24 =>
    intro M x1 x2 x3 x4 H locs ls h hw hl
    refine lv_iload X.1 X.2.1 dX9_load_24 (lv_at hl 4 rfl) ?_
    refine lv_aload_n X.1 X.2.1 dX9_load_26 rfl (lv_at hl 0 rfl) ?_
    refine r_gf X inX9_load_X9 hw 0 rfl rfl 30 (by decide) (X.2.2.2.2 (.fieldLink RX9 256 "TestHallModel" "learners" "I") (by decide +kernel)) rfl rfl dX9_load_27 ?_
    obtain ⟨ht_, hf_⟩ := h
    refine lv_icmp_ge (tgt := 72) X.1 X.2.1 dX9_load_30 (by decide) (fun c_ => ?_) (fun c_ => ?_)
    · have h := ht_ c_
      refine lv_iload_n X.1 X.2.1 dX9_load_72 rfl (lv_at hl 2 rfl) ?_
      obtain ⟨ht_, hf_⟩ := h
      refine lv_if_ne (tgt := 85) X.1 X.2.1 dX9_load_73 (by decide) (fun c_ => ?_) (fun c_ => ?_)
      · have h := ht_ c_
        refine lv_iload_n X.1 X.2.1 dX9_load_85 rfl (lv_at hl 2 rfl) ?_
        refine lv_iconst (v := (1 : Int32)) X.1 X.2.1 dX9_load_86 (by decide) ?_
        obtain ⟨ht_, hf_⟩ := h
        refine lv_icmp_ne (tgt := 99) X.1 X.2.1 dX9_load_87 (by decide) (fun c_ => ?_) (fun c_ => ?_)
        · have h := ht_ c_
          refine lv_iload_n X.1 X.2.1 dX9_load_99 rfl (lv_at hl 2 rfl) ?_
          refine lv_iconst (v := (2 : Int32)) X.1 X.2.1 dX9_load_100 (by decide) ?_
          obtain ⟨ht_, hf_⟩ := h
          refine lv_icmp_ne (tgt := 108) X.1 X.2.1 dX9_load_101 (by decide) (fun c_ => ?_) (fun c_ => ?_)
          · have h := ht_ c_
            refine lv_iconst (v := (-1 : Int32)) X.1 X.2.1 dX9_load_108 (by decide) ?_
            exact r_ret X hr hlk hw h dX9_load_109
          · have h := hf_ c_
            refine lv_iload_n X.1 X.2.1 dX9_load_104 rfl (lv_at hl 3 rfl) ?_
            refine lv_goto (tgt := 109) X.1 X.2.1 dX9_load_105 (by decide) ?_
            exact r_ret X hr hlk hw h dX9_load_109
        · have h := hf_ c_
          refine lv_aload_n X.1 X.2.1 dX9_load_90 rfl (lv_at hl 0 rfl) ?_
          refine r_gf X inX9_load_X9 hw 0 rfl rfl 29 (by decide) (X.2.2.2.2 (.fieldLink RX9 95 "TestHallModel" "passes" "[I") (by decide +kernel)) rfl rfl dX9_load_91 ?_
          refine lv_iload_n X.1 X.2.1 dX9_load_94 rfl (lv_at hl 1 rfl) ?_
          obtain ⟨hi_, h⟩ := h
          refine r_ial X hw 19 0 rfl rfl hi_ dX9_load_95 ?_
          refine lv_goto (tgt := 109) X.1 X.2.1 dX9_load_96 (by decide) ?_
          exact r_ret X hr hlk hw h dX9_load_109
      · have h := hf_ c_
        refine lv_aload_n X.1 X.2.1 dX9_load_76 rfl (lv_at hl 0 rfl) ?_
        refine r_gf X inX9_load_X9 hw 0 rfl rfl 28 (by decide) (X.2.2.2.2 (.fieldLink RX9 92 "TestHallModel" "tests" "[I") (by decide +kernel)) rfl rfl dX9_load_77 ?_
        refine lv_iload_n X.1 X.2.1 dX9_load_80 rfl (lv_at hl 1 rfl) ?_
        obtain ⟨hi_, h⟩ := h
        refine r_ial X hw 18 0 rfl rfl hi_ dX9_load_81 ?_
        refine lv_goto (tgt := 109) X.1 X.2.1 dX9_load_82 (by decide) ?_
        exact r_ret X hr hlk hw h dX9_load_109
    · have h := hf_ c_
      refine lv_iload_n X.1 X.2.1 dX9_load_33 rfl (lv_at hl 3 rfl) ?_
      refine lv_aload_n X.1 X.2.1 dX9_load_34 rfl (lv_at hl 0 rfl) ?_
      refine r_gf X inX9_load_X9 hw 0 rfl rfl 38 (by decide) (X.2.2.2.2 (.fieldLink RX9 119 "TestHallModel" "state" "[I") (by decide +kernel)) rfl rfl dX9_load_35 ?_
      refine lv_iload X.1 X.2.1 dX9_load_38 (lv_at hl 4 rfl) ?_
      obtain ⟨hi_, h⟩ := h
      refine r_ial X hw 27 0 rfl rfl hi_ dX9_load_40 ?_
      refine lv_iconst (v := (1 : Int32)) X.1 X.2.1 dX9_load_41 (by decide) ?_
      obtain ⟨ht_, hf_⟩ := h
      refine lv_icmp_ne (tgt := 63) X.1 X.2.1 dX9_load_42 (by decide) (fun c_ => ?_) (fun c_ => ?_)
      · have h := ht_ c_
        exact bX9_load_63 X hr hlk hK24 M x1 x2 x4 x3 _ _ _ h hw (lv_sub hl [0, 1, 2, 4] rfl)
      · have h := hf_ c_
        refine lv_aload_n X.1 X.2.1 dX9_load_45 rfl (lv_at hl 0 rfl) ?_
        refine r_gf X inX9_load_X9 hw 0 rfl rfl 39 (by decide) (X.2.2.2.2 (.fieldLink RX9 122 "TestHallModel" "slot" "[I") (by decide +kernel)) rfl rfl dX9_load_46 ?_
        refine lv_iload X.1 X.2.1 dX9_load_49 (lv_at hl 4 rfl) ?_
        obtain ⟨hi_, h⟩ := h
        refine r_ial X hw 28 0 rfl rfl hi_ dX9_load_51 ?_
        refine lv_bipush (v := (8 : Int32)) X.1 X.2.1 dX9_load_52 (by decide) ?_
        refine lv_irem X.1 X.2.1 dX9_load_54 (by decide) ?_
        refine lv_iload_n X.1 X.2.1 dX9_load_55 rfl (lv_at hl 1 rfl) ?_
        obtain ⟨ht_, hf_⟩ := h
        refine lv_icmp_ne (tgt := 63) X.1 X.2.1 dX9_load_56 (by decide) (fun c_ => ?_) (fun c_ => ?_)
        · have h := ht_ c_
          exact bX9_load_63 X hr hlk hK24 M x1 x2 x4 x3 _ _ _ h hw (lv_sub hl [0, 1, 2, 4] rfl)
        · have h := hf_ c_
          refine lv_iconst (v := (1 : Int32)) X.1 X.2.1 dX9_load_59 (by decide) ?_
          refine lv_goto (tgt := 64) X.1 X.2.1 dX9_load_60 (by decide) ?_
          exact bX9_load_64 X hr hlk hK24 M x1 x2 x4 (1 : Int32) x3 _ _ _ h hw (lv_sub hl [0, 1, 2, 4] rfl)
def wX9_load (M : Sg) (a1 : Int32) (a2 : Int32) (Q : Sg → Int32 → Prop) : Prop := (∀ (M_1 : Sg), M_1 = sI M 0 (0 : Int32) → ((a1 < 0 → (Q M_1 (-1 : Int32))) ∧ (¬ a1 < 0 → ((a1 < (gI M_1 25) → (∃ g24_ : Nat, vX9_load_24 Q g24_ M_1 a1 a2 (0 : Int32) (0 : Int32))) ∧ (¬ a1 < (gI M_1 25) → (Q M_1 (-1 : Int32)))))))
set_option maxHeartbeats 4000000 in
set_option maxRecDepth 100000 in
theorem kX9_load {l : Launch} {D : va_G} {κ : Nat → ClassId} {η : Nat → Nat} {σ : (Nat → Nat) × (Nat → Nat)} {M : Sg} {a1 : Int32} {a2 : Int32} {Q : Sg → Int32 → Prop} (h : wX9_load M a1 a2 Q) : Ki (cN σ) D (Ky κ) (mw κ η) l yX9_load wsX9_load rmX9_load [.ref (η 0), .int a1, .int a2] M Q := by
  refine ofW_g (Qc := fun A => Qi D (Ky κ) (mw κ η) A Q) (cc := cX9_load) (maxL := 5) (ret := (some .int)) (by decide) rfl (Nat.le_of_ble_eq_true rfl) ?_
  intro p e s m args below meth c A ls X hr hlk hw hl
  have hl : lv_has ls 5 [(0, .ref (η 0)), (1, .int a1), (2, .int a2)] := hl
  refine lv_aload_n X.1 X.2.1 dX9_load_0 rfl (lv_at hl 0 rfl) ?_
  refine lv_iconst (v := (0 : Int32)) X.1 X.2.1 dX9_load_1 (by decide) ?_
  refine r_pf (ty := .int) (w' := mw κ η (sI M 0 (0 : Int32))) X inX9_load_X9 tyX9_ok nmX9 hw 0 rfl rfl 0 (by decide) (X.2.2.2.2 (.fieldLink RX9 1 "TestHallModel" "thrown" "I") (by decide +kernel)) rfl rfl (by decide +kernel) rfl rfl (Nat.le_of_ble_eq_true rfl) rfl dX9_load_2 (fun H locs hw => ?_)
  obtain ⟨M_1, eM_1⟩ : ∃ y : Sg, y = sI M 0 (0 : Int32) := ⟨_, rfl⟩
  rw [← eM_1] at hw
  have h := h M_1 eM_1
  refine lv_iload_n X.1 X.2.1 dX9_load_5 rfl (lv_at hl 1 rfl) ?_
  obtain ⟨ht_, hf_⟩ := h
  refine lv_if_lt (tgt := 17) X.1 X.2.1 dX9_load_6 (by decide) (fun c_ => ?_) (fun c_ => ?_)
  · have h := ht_ c_
    refine lv_iconst (v := (-1 : Int32)) X.1 X.2.1 dX9_load_17 (by decide) ?_
    exact r_ret X hr hlk hw h dX9_load_18
  · have h := hf_ c_
    refine lv_iload_n X.1 X.2.1 dX9_load_9 rfl (lv_at hl 1 rfl) ?_
    refine lv_aload_n X.1 X.2.1 dX9_load_10 rfl (lv_at hl 0 rfl) ?_
    refine r_gf X inX9_load_X9 hw 0 rfl rfl 25 (by decide) (X.2.2.2.2 (.fieldLink RX9 249 "TestHallModel" "examiners" "I") (by decide +kernel)) rfl rfl dX9_load_11 ?_
    obtain ⟨ht_, hf_⟩ := h
    refine lv_icmp_lt (tgt := 19) X.1 X.2.1 dX9_load_14 (by decide) (fun c_ => ?_) (fun c_ => ?_)
    · have h := ht_ c_
      refine lv_iconst (v := (0 : Int32)) X.1 X.2.1 dX9_load_19 (by decide) ?_
      refine lv_istore_n (lv' := [(3, .int (0 : Int32)), (0, .ref (η 0)), (1, .int a1), (2, .int a2)]) X.1 X.2.1 dX9_load_20 rfl hl (by decide) rfl (fun ls hl => ?_)
      refine lv_iconst (v := (0 : Int32)) X.1 X.2.1 dX9_load_21 (by decide) ?_
      refine lv_istore (lv' := [(4, .int (0 : Int32)), (3, .int (0 : Int32)), (0, .ref (η 0)), (1, .int a1), (2, .int a2)]) X.1 X.2.1 dX9_load_22 hl (by decide) rfl (fun ls hl => ?_)
      obtain ⟨f_, h⟩ := h
      exact bX9_load_24 X hr hlk f_ M_1 a1 a2 (0 : Int32) (0 : Int32) _ _ _ h hw (lv_sub hl [2, 3, 4, 1, 0] rfl)
    · have h := hf_ c_
      refine lv_iconst (v := (-1 : Int32)) X.1 X.2.1 dX9_load_17 (by decide) ?_
      exact r_ret X hr hlk hw h dX9_load_18
