theorem inX9_worth_X9 : ∀ w ∈ wsX90, w ∈ wsX9_worth := fun w h => List.mem_cons_of_mem _ (List.mem_append_right _ h)
abbrev rmX9_worth : Room := { frames := 0, cells := 0, slots := 0, locals := 0 }
def vX9_worth_186 (K4 : Sg → Int32 → Int32 → Prop) (Q : Sg → Int32 → Prop) (M : Sg) (x2 : Int32) (x3 : Int32) : Prop := (∀ (x_1 : Int32), x_1 = x2 + (1 : Int32) → (K4 M x_1 x3))
set_option maxHeartbeats 4000000 in
set_option maxRecDepth 100000 in
theorem bX9_worth_186 {p : Program} {l : Launch} {e : Env} {s : State} {m : MethodId} {args : Array Value} {below : List Frame} {meth : Method} {c : Code} {D : va_G} {κ : Nat → ClassId} {η : Nat → Nat} {σ : (Nat → Nat) × (Nat → Nat)} {A : Nat → Prop} {Q : Sg → Int32 → Prop} {K4 : Sg → Int32 → Int32 → Prop} (X : CallFix p m c cX9_worth 7 s args wsX9_worth RX9) (hr : meth.sig.returnType = (some .int)) (hlk : meth.locks = false) (hK4 : ∀ (M : Sg) (x2 : Int32) (x3 : Int32) (H : Heap) (locs : List Loc) (ls : Array Slot), K4 M x2 x3 → Wd (cN σ) D (Ky κ) A s (mw κ η M) H locs → lv_has ls 7 [(0, .ref (η 0)), (2, .int x2), (3, .int x3)] → W p l e rmX9_worth s m args below meth c H locs 0 0 (MQ below (Qi D (Ky κ) (mw κ η) A Q) args s 0 0 A) (F0 m 4 ls [])) : ∀ (M : Sg) (x2 : Int32) (x3 : Int32) (H : Heap) (locs : List Loc) (ls : Array Slot), vX9_worth_186 K4 Q M x2 x3 → Wd (cN σ) D (Ky κ) A s (mw κ η M) H locs → lv_has ls 7 [(0, .ref (η 0)), (2, .int x2), (3, .int x3)] → W p l e rmX9_worth s m args below meth c H locs 0 0 (MQ below (Qi D (Ky κ) (mw κ η) A Q) args s 0 0 A) (F0 m 186 ls []) := by
  intro M x2 x3 H locs ls h hw hl
  obtain ⟨x_1, ex_1⟩ : ∃ y : Int32, y = x2 + (1 : Int32) := ⟨_, rfl⟩
  have h := h x_1 ex_1
  refine lv_iinc (v := x_1) (lv' := [(2, .int x_1), (0, .ref (η 0)), (3, .int x3)]) X.1 X.2.1 dX9_worth_186 hl (k := 1) rfl (by rw [ex_1]; rfl) (by decide) rfl (fun ls hl => ?_)
  refine lv_goto (tgt := 4) X.1 X.2.1 dX9_worth_189 (by decide) ?_
  exact hK4 M x_1 x3 _ _ _ h hw (lv_sub hl [1, 0, 2] rfl)
def vX9_worth_64 (K4 : Sg → Int32 → Int32 → Prop) (Q : Sg → Int32 → Prop) (M : Sg) (x2 : Int32) (x3 : Int32) (s0 : Int32) (s1 : Int32) : Prop := (vp_in s1 660 ∧ (∀ (M_1 : Sg), M_1 = sA M 23 s1.toNatClampNeg s0 → (∀ (x_2 : Int32), x_2 = x3 + (1 : Int32) → (vX9_worth_186 K4 Q M_1 x2 x_2))))
set_option maxHeartbeats 4000000 in
set_option maxRecDepth 100000 in
theorem bX9_worth_64 {p : Program} {l : Launch} {e : Env} {s : State} {m : MethodId} {args : Array Value} {below : List Frame} {meth : Method} {c : Code} {D : va_G} {κ : Nat → ClassId} {η : Nat → Nat} {σ : (Nat → Nat) × (Nat → Nat)} {A : Nat → Prop} {Q : Sg → Int32 → Prop} {K4 : Sg → Int32 → Int32 → Prop} (X : CallFix p m c cX9_worth 7 s args wsX9_worth RX9) (hr : meth.sig.returnType = (some .int)) (hlk : meth.locks = false) (hK4 : ∀ (M : Sg) (x2 : Int32) (x3 : Int32) (H : Heap) (locs : List Loc) (ls : Array Slot), K4 M x2 x3 → Wd (cN σ) D (Ky κ) A s (mw κ η M) H locs → lv_has ls 7 [(0, .ref (η 0)), (2, .int x2), (3, .int x3)] → W p l e rmX9_worth s m args below meth c H locs 0 0 (MQ below (Qi D (Ky κ) (mw κ η) A Q) args s 0 0 A) (F0 m 4 ls [])) : ∀ (M : Sg) (x2 : Int32) (x3 : Int32) (s0 : Int32) (s1 : Int32) (H : Heap) (locs : List Loc) (ls : Array Slot), vX9_worth_64 K4 Q M x2 x3 s0 s1 → Wd (cN σ) D (Ky κ) A s (mw κ η M) H locs → lv_has ls 7 [(0, .ref (η 0)), (2, .int x2), (3, .int x3)] → W p l e rmX9_worth s m args below meth c H locs 0 0 (MQ below (Qi D (Ky κ) (mw κ η) A Q) args s 0 0 A) (F0 m 64 ls [.int s0, .int s1, .ref (η 15)]) := by
  intro M x2 x3 s0 s1 H locs ls h hw hl
  obtain ⟨hi_, h⟩ := h
  refine r_ias (w' := mw κ η (sA M 23 s1.toNatClampNeg s0)) X hw 15 0 rfl rfl hi_ rfl dX9_worth_64 (fun H locs hw => ?_)
  obtain ⟨M_1, eM_1⟩ : ∃ y : Sg, y = sA M 23 s1.toNatClampNeg s0 := ⟨_, rfl⟩
  rw [← eM_1] at hw
  have h := h M_1 eM_1
  obtain ⟨x_2, ex_2⟩ : ∃ y : Int32, y = x3 + (1 : Int32) := ⟨_, rfl⟩
  have h := h x_2 ex_2
  refine lv_iinc (v := x_2) (lv' := [(3, .int x_2), (0, .ref (η 0)), (2, .int x2)]) X.1 X.2.1 dX9_worth_65 hl (k := 2) rfl (by rw [ex_2]; rfl) (by decide) rfl (fun ls hl => ?_)
  refine lv_goto (tgt := 186) X.1 X.2.1 dX9_worth_68 (by decide) ?_
  exact bX9_worth_186 X hr hlk hK4 M_1 x2 x_2 _ _ _ h hw (lv_sub hl [1, 2, 0] rfl)
def vX9_worth_33 (K4 : Sg → Int32 → Int32 → Prop) (Q : Sg → Int32 → Prop) (M : Sg) (x2 : Int32) (x3 : Int32) (x4 : Int32) : Prop := ((¬ x4 = (1 : Int32) → (vp_in x2 1320 ∧ (vp_in (gA M 14 x2.toNatClampNeg) 6 ∧ (vX9_worth_64 K4 Q M x2 x3 (gA M 22 (gA M 14 x2.toNatClampNeg).toNatClampNeg) x3)))) ∧ (x4 = (1 : Int32) → (vp_in x2 1320 ∧ (vX9_worth_64 K4 Q M x2 x3 (gA M 14 x2.toNatClampNeg) x3))))
set_option maxHeartbeats 4000000 in
set_option maxRecDepth 100000 in
theorem bX9_worth_33 {p : Program} {l : Launch} {e : Env} {s : State} {m : MethodId} {args : Array Value} {below : List Frame} {meth : Method} {c : Code} {D : va_G} {κ : Nat → ClassId} {η : Nat → Nat} {σ : (Nat → Nat) × (Nat → Nat)} {A : Nat → Prop} {Q : Sg → Int32 → Prop} {K4 : Sg → Int32 → Int32 → Prop} (X : CallFix p m c cX9_worth 7 s args wsX9_worth RX9) (hr : meth.sig.returnType = (some .int)) (hlk : meth.locks = false) (hK4 : ∀ (M : Sg) (x2 : Int32) (x3 : Int32) (H : Heap) (locs : List Loc) (ls : Array Slot), K4 M x2 x3 → Wd (cN σ) D (Ky κ) A s (mw κ η M) H locs → lv_has ls 7 [(0, .ref (η 0)), (2, .int x2), (3, .int x3)] → W p l e rmX9_worth s m args below meth c H locs 0 0 (MQ below (Qi D (Ky κ) (mw κ η) A Q) args s 0 0 A) (F0 m 4 ls [])) : ∀ (M : Sg) (x2 : Int32) (x3 : Int32) (x4 : Int32) (H : Heap) (locs : List Loc) (ls : Array Slot), vX9_worth_33 K4 Q M x2 x3 x4 → Wd (cN σ) D (Ky κ) A s (mw κ η M) H locs → lv_has ls 7 [(0, .ref (η 0)), (2, .int x2), (3, .int x3), (4, .int x4)] → W p l e rmX9_worth s m args below meth c H locs 0 0 (MQ below (Qi D (Ky κ) (mw κ η) A Q) args s 0 0 A) (F0 m 33 ls []) := by
  intro M x2 x3 x4 H locs ls h hw hl
  refine lv_aload_n X.1 X.2.1 dX9_worth_33 rfl (lv_at hl 0 rfl) ?_
  refine r_gf X inX9_worth_X9 hw 0 rfl rfl 23 (by decide) (X.2.2.2.2 (.fieldLink RX9 82 "TestHallModel" "pile" "[I") (by decide +kernel)) rfl rfl dX9_worth_34 ?_
  refine lv_iload_n X.1 X.2.1 dX9_worth_37 rfl (lv_at hl 2 rfl) ?_
  refine lv_iload X.1 X.2.1 dX9_worth_38 (lv_at hl 3 rfl) ?_
  refine lv_iconst (v := (1 : Int32)) X.1 X.2.1 dX9_worth_40 (by decide) ?_
  obtain ⟨ht_, hf_⟩ := h
  refine lv_icmp_ne (tgt := 53) X.1 X.2.1 dX9_worth_41 (by decide) (fun c_ => ?_) (fun c_ => ?_)
  · have h := ht_ c_
    refine lv_aload_n X.1 X.2.1 dX9_worth_53 rfl (lv_at hl 0 rfl) ?_
    refine r_gf X inX9_worth_X9 hw 0 rfl rfl 22 (by decide) (X.2.2.2.2 (.fieldLink RX9 79 "TestHallModel" "known" "[I") (by decide +kernel)) rfl rfl dX9_worth_54 ?_
    refine lv_aload_n X.1 X.2.1 dX9_worth_57 rfl (lv_at hl 0 rfl) ?_
    refine r_gf X inX9_worth_X9 hw 0 rfl rfl 14 (by decide) (X.2.2.2.2 (.fieldLink RX9 67 "TestHallModel" "one" "[I") (by decide +kernel)) rfl rfl dX9_worth_58 ?_
    refine lv_iload_n X.1 X.2.1 dX9_worth_61 rfl (lv_at hl 1 rfl) ?_
    obtain ⟨hi_, h⟩ := h
    refine r_ial X hw 10 0 rfl rfl hi_ dX9_worth_62 ?_
    obtain ⟨hi_, h⟩ := h
    refine r_ial X hw 14 0 rfl rfl hi_ dX9_worth_63 ?_
    exact bX9_worth_64 X hr hlk hK4 M x2 x3 (gA M 22 (gA M 14 x2.toNatClampNeg).toNatClampNeg) x3 _ _ _ h hw (lv_sub hl [0, 1, 2] rfl)
  · have h := hf_ c_
    refine lv_aload_n X.1 X.2.1 dX9_worth_44 rfl (lv_at hl 0 rfl) ?_
    refine r_gf X inX9_worth_X9 hw 0 rfl rfl 14 (by decide) (X.2.2.2.2 (.fieldLink RX9 67 "TestHallModel" "one" "[I") (by decide +kernel)) rfl rfl dX9_worth_45 ?_
    refine lv_iload_n X.1 X.2.1 dX9_worth_48 rfl (lv_at hl 1 rfl) ?_
    obtain ⟨hi_, h⟩ := h
    refine r_ial X hw 10 0 rfl rfl hi_ dX9_worth_49 ?_
    refine lv_goto (tgt := 64) X.1 X.2.1 dX9_worth_50 (by decide) ?_
    exact bX9_worth_64 X hr hlk hK4 M x2 x3 (gA M 14 x2.toNatClampNeg) x3 _ _ _ h hw (lv_sub hl [0, 1, 2] rfl)
def vX9_worth_185 (K4 : Sg → Int32 → Int32 → Prop) (Q : Sg → Int32 → Prop) (M : Sg) (x2 : Int32) (x3 : Int32) (s0 : Int32) (s1 : Int32) : Prop := (vp_in s1 660 ∧ (∀ (M_1 : Sg), M_1 = sA M 23 s1.toNatClampNeg s0 → (vX9_worth_186 K4 Q M_1 x2 x3)))
set_option maxHeartbeats 4000000 in
set_option maxRecDepth 100000 in
theorem bX9_worth_185 {p : Program} {l : Launch} {e : Env} {s : State} {m : MethodId} {args : Array Value} {below : List Frame} {meth : Method} {c : Code} {D : va_G} {κ : Nat → ClassId} {η : Nat → Nat} {σ : (Nat → Nat) × (Nat → Nat)} {A : Nat → Prop} {Q : Sg → Int32 → Prop} {K4 : Sg → Int32 → Int32 → Prop} (X : CallFix p m c cX9_worth 7 s args wsX9_worth RX9) (hr : meth.sig.returnType = (some .int)) (hlk : meth.locks = false) (hK4 : ∀ (M : Sg) (x2 : Int32) (x3 : Int32) (H : Heap) (locs : List Loc) (ls : Array Slot), K4 M x2 x3 → Wd (cN σ) D (Ky κ) A s (mw κ η M) H locs → lv_has ls 7 [(0, .ref (η 0)), (2, .int x2), (3, .int x3)] → W p l e rmX9_worth s m args below meth c H locs 0 0 (MQ below (Qi D (Ky κ) (mw κ η) A Q) args s 0 0 A) (F0 m 4 ls [])) : ∀ (M : Sg) (x2 : Int32) (x3 : Int32) (s0 : Int32) (s1 : Int32) (H : Heap) (locs : List Loc) (ls : Array Slot), vX9_worth_185 K4 Q M x2 x3 s0 s1 → Wd (cN σ) D (Ky κ) A s (mw κ η M) H locs → lv_has ls 7 [(0, .ref (η 0)), (2, .int x2), (3, .int x3)] → W p l e rmX9_worth s m args below meth c H locs 0 0 (MQ below (Qi D (Ky κ) (mw κ η) A Q) args s 0 0 A) (F0 m 185 ls [.int s0, .int s1, .ref (η 15)]) := by
  intro M x2 x3 s0 s1 H locs ls h hw hl
  obtain ⟨hi_, h⟩ := h
  refine r_ias (w' := mw κ η (sA M 23 s1.toNatClampNeg s0)) X hw 15 0 rfl rfl hi_ rfl dX9_worth_185 (fun H locs hw => ?_)
  obtain ⟨M_1, eM_1⟩ : ∃ y : Sg, y = sA M 23 s1.toNatClampNeg s0 := ⟨_, rfl⟩
  rw [← eM_1] at hw
  have h := h M_1 eM_1
  exact bX9_worth_186 X hr hlk hK4 M_1 x2 x3 _ _ _ h hw (lv_sub hl [0, 1, 2] rfl)
def vX9_worth_184 (K4 : Sg → Int32 → Int32 → Prop) (Q : Sg → Int32 → Prop) (M : Sg) (x2 : Int32) (x3 : Int32) (s0 : Int32) : Prop := (vX9_worth_185 K4 Q M x2 x3 (0 : Int32) s0)
set_option maxHeartbeats 4000000 in
set_option maxRecDepth 100000 in
theorem bX9_worth_184 {p : Program} {l : Launch} {e : Env} {s : State} {m : MethodId} {args : Array Value} {below : List Frame} {meth : Method} {c : Code} {D : va_G} {κ : Nat → ClassId} {η : Nat → Nat} {σ : (Nat → Nat) × (Nat → Nat)} {A : Nat → Prop} {Q : Sg → Int32 → Prop} {K4 : Sg → Int32 → Int32 → Prop} (X : CallFix p m c cX9_worth 7 s args wsX9_worth RX9) (hr : meth.sig.returnType = (some .int)) (hlk : meth.locks = false) (hK4 : ∀ (M : Sg) (x2 : Int32) (x3 : Int32) (H : Heap) (locs : List Loc) (ls : Array Slot), K4 M x2 x3 → Wd (cN σ) D (Ky κ) A s (mw κ η M) H locs → lv_has ls 7 [(0, .ref (η 0)), (2, .int x2), (3, .int x3)] → W p l e rmX9_worth s m args below meth c H locs 0 0 (MQ below (Qi D (Ky κ) (mw κ η) A Q) args s 0 0 A) (F0 m 4 ls [])) : ∀ (M : Sg) (x2 : Int32) (x3 : Int32) (s0 : Int32) (H : Heap) (locs : List Loc) (ls : Array Slot), vX9_worth_184 K4 Q M x2 x3 s0 → Wd (cN σ) D (Ky κ) A s (mw κ η M) H locs → lv_has ls 7 [(0, .ref (η 0)), (2, .int x2), (3, .int x3)] → W p l e rmX9_worth s m args below meth c H locs 0 0 (MQ below (Qi D (Ky κ) (mw κ η) A Q) args s 0 0 A) (F0 m 184 ls [.int s0, .ref (η 15)]) := by
  intro M x2 x3 s0 H locs ls h hw hl
  refine lv_iconst (v := (0 : Int32)) X.1 X.2.1 dX9_worth_184 (by decide) ?_
  exact bX9_worth_185 X hr hlk hK4 M x2 x3 (0 : Int32) s0 _ _ _ h hw (lv_sub hl [0, 1, 2] rfl)
def vX9_worth_4 (Q : Sg → Int32 → Prop) : Nat → Sg → Int32 → Int32 → Prop
  | 0, _, _, _ => False
  | f4_ + 1, M, x2, x3 => (vp_in x2 1320 ∧ (((gA M 13 x2.toNatClampNeg) = 0 → (vp_in (0 : Int32) 660 ∧ (Q M (gA M 23 (0 : Int32).toNatClampNeg)))) ∧ (¬ (gA M 13 x2.toNatClampNeg) = 0 → (vp_in x2 1320 ∧ (∀ (x_1 : Int32), x_1 = (gA M 13 x2.toNatClampNeg) → ((x_1 = (1 : Int32) → (vX9_worth_33 (vX9_worth_4 Q f4_) Q M x2 x3 x_1)) ∧ (¬ x_1 = (1 : Int32) → ((¬ x_1 = (2 : Int32) → (∀ (x_2 : Int32), x_2 = x3 + (-1 : Int32) → (vp_in x_2 660 ∧ (∀ (x_3 : Int32), x_3 = (gA M 23 x_2.toNatClampNeg) → (vp_in (x_2 - (1 : Int32)) 660 ∧ (∀ (x_4 : Int32), x_4 = (gA M 23 (x_2 - (1 : Int32)).toNatClampNeg) → ((¬ x_1 = (3 : Int32) → ((¬ x_1 = (4 : Int32) → ((¬ x_1 = (5 : Int32) → ((¬ x_1 = (6 : Int32) → ((x_4 = 0 → (vX9_worth_184 (vX9_worth_4 Q f4_) Q M x2 x_2 (x_2 - (1 : Int32)))) ∧ (¬ x_4 = 0 → ((x_3 = 0 → (vX9_worth_184 (vX9_worth_4 Q f4_) Q M x2 x_2 (x_2 - (1 : Int32)))) ∧ (¬ x_3 = 0 → (vX9_worth_185 (vX9_worth_4 Q f4_) Q M x2 x_2 (1 : Int32) (x_2 - (1 : Int32)))))))) ∧ (x_1 = (6 : Int32) → ((¬ x_4 = x_3 → (vX9_worth_185 (vX9_worth_4 Q f4_) Q M x2 x_2 (0 : Int32) (x_2 - (1 : Int32)))) ∧ (x_4 = x_3 → (vX9_worth_185 (vX9_worth_4 Q f4_) Q M x2 x_2 (1 : Int32) (x_2 - (1 : Int32)))))))) ∧ (x_1 = (5 : Int32) → ((x_3 ≤ x_4 → (vX9_worth_185 (vX9_worth_4 Q f4_) Q M x2 x_2 (0 : Int32) (x_2 - (1 : Int32)))) ∧ (¬ x_3 ≤ x_4 → (vX9_worth_185 (vX9_worth_4 Q f4_) Q M x2 x_2 (1 : Int32) (x_2 - (1 : Int32)))))))) ∧ (x_1 = (4 : Int32) → (vX9_worth_185 (vX9_worth_4 Q f4_) Q M x2 x_2 (x_4 - x_3) (x_2 - (1 : Int32)))))) ∧ (x_1 = (3 : Int32) → (vX9_worth_185 (vX9_worth_4 Q f4_) Q M x2 x_2 (x_4 + x_3) (x_2 - (1 : Int32))))))))))) ∧ (x_1 = (2 : Int32) → (vX9_worth_33 (vX9_worth_4 Q f4_) Q M x2 x3 x_1))))))))))
set_option maxHeartbeats 4000000 in
set_option maxRecDepth 100000 in
theorem bX9_worth_4 {p : Program} {l : Launch} {e : Env} {s : State} {m : MethodId} {args : Array Value} {below : List Frame} {meth : Method} {c : Code} {D : va_G} {κ : Nat → ClassId} {η : Nat → Nat} {σ : (Nat → Nat) × (Nat → Nat)} {A : Nat → Prop} {Q : Sg → Int32 → Prop} (X : CallFix p m c cX9_worth 7 s args wsX9_worth RX9) (hr : meth.sig.returnType = (some .int)) (hlk : meth.locks = false) : ∀ (f_ : Nat) (M : Sg) (x2 : Int32) (x3 : Int32) (H : Heap) (locs : List Loc) (ls : Array Slot), vX9_worth_4 Q f_ M x2 x3 → Wd (cN σ) D (Ky κ) A s (mw κ η M) H locs → lv_has ls 7 [(0, .ref (η 0)), (2, .int x2), (3, .int x3)] → W p l e rmX9_worth s m args below meth c H locs 0 0 (MQ below (Qi D (Ky κ) (mw κ η) A Q) args s 0 0 A) (F0 m 4 ls []) := by
  intro f_
  induction f_ with
  | zero => intro M x2 x3 H locs ls h; exact h.elim
  | succ f_ hK4 =>
    intro M x2 x3 H locs ls h hw hl
    refine lv_aload_n X.1 X.2.1 dX9_worth_4 rfl (lv_at hl 0 rfl) ?_
    refine r_gf X inX9_worth_X9 hw 0 rfl rfl 13 (by decide) (X.2.2.2.2 (.fieldLink RX9 64 "TestHallModel" "op" "[I") (by decide +kernel)) rfl rfl dX9_worth_5 ?_
    refine lv_iload_n X.1 X.2.1 dX9_worth_8 rfl (lv_at hl 1 rfl) ?_
    obtain ⟨hi_, h⟩ := h
    refine r_ial X hw 9 0 rfl rfl hi_ dX9_worth_9 ?_
    obtain ⟨ht_, hf_⟩ := h
    refine lv_if_eq (tgt := 192) X.1 X.2.1 dX9_worth_10 (by decide) (fun c_ => ?_) (fun c_ => ?_)
    · have h := ht_ c_
      refine lv_aload_n X.1 X.2.1 dX9_worth_192 rfl (lv_at hl 0 rfl) ?_
      refine r_gf X inX9_worth_X9 hw 0 rfl rfl 23 (by decide) (X.2.2.2.2 (.fieldLink RX9 82 "TestHallModel" "pile" "[I") (by decide +kernel)) rfl rfl dX9_worth_193 ?_
      refine lv_iconst (v := (0 : Int32)) X.1 X.2.1 dX9_worth_196 (by decide) ?_
      obtain ⟨hi_, h⟩ := h
      refine r_ial X hw 15 0 rfl rfl hi_ dX9_worth_197 ?_
      exact r_ret X hr hlk hw h dX9_worth_198
    · have h := hf_ c_
      refine lv_aload_n X.1 X.2.1 dX9_worth_13 rfl (lv_at hl 0 rfl) ?_
      refine r_gf X inX9_worth_X9 hw 0 rfl rfl 13 (by decide) (X.2.2.2.2 (.fieldLink RX9 64 "TestHallModel" "op" "[I") (by decide +kernel)) rfl rfl dX9_worth_14 ?_
      refine lv_iload_n X.1 X.2.1 dX9_worth_17 rfl (lv_at hl 1 rfl) ?_
      obtain ⟨hi_, h⟩ := h
      refine r_ial X hw 9 0 rfl rfl hi_ dX9_worth_18 ?_
      refine lv_topi (fun x_1 ex_1 => ?_)
      have h := h x_1 ex_1
      refine lv_istore (lv' := [(4, .int x_1), (0, .ref (η 0)), (2, .int x2), (3, .int x3)]) X.1 X.2.1 dX9_worth_19 hl (by decide) rfl (fun ls hl => ?_)
      refine lv_iload X.1 X.2.1 dX9_worth_21 (lv_at hl 0 rfl) ?_
      refine lv_iconst (v := (1 : Int32)) X.1 X.2.1 dX9_worth_23 (by decide) ?_
      obtain ⟨ht_, hf_⟩ := h
      refine lv_icmp_eq (tgt := 33) X.1 X.2.1 dX9_worth_24 (by decide) (fun c_ => ?_) (fun c_ => ?_)
      · have h := ht_ c_
        exact bX9_worth_33 X hr hlk hK4 M x2 x3 x_1 _ _ _ h hw (lv_sub hl [1, 2, 3, 0] rfl)
      · have h := hf_ c_
        refine lv_iload X.1 X.2.1 dX9_worth_27 (lv_at hl 0 rfl) ?_
        refine lv_iconst (v := (2 : Int32)) X.1 X.2.1 dX9_worth_29 (by decide) ?_
        obtain ⟨ht_, hf_⟩ := h
        refine lv_icmp_ne (tgt := 71) X.1 X.2.1 dX9_worth_30 (by decide) (fun c_ => ?_) (fun c_ => ?_)
        · have h := ht_ c_
          obtain ⟨x_2, ex_2⟩ : ∃ y : Int32, y = x3 + (-1 : Int32) := ⟨_, rfl⟩
          have h := h x_2 ex_2
          refine lv_iinc (v := x_2) (lv' := [(3, .int x_2), (4, .int x_1), (0, .ref (η 0)), (2, .int x2)]) X.1 X.2.1 dX9_worth_71 hl (k := 3) rfl (by rw [ex_2]; rfl) (by decide) rfl (fun ls hl => ?_)
          refine lv_aload_n X.1 X.2.1 dX9_worth_74 rfl (lv_at hl 2 rfl) ?_
          refine r_gf X inX9_worth_X9 hw 0 rfl rfl 23 (by decide) (X.2.2.2.2 (.fieldLink RX9 82 "TestHallModel" "pile" "[I") (by decide +kernel)) rfl rfl dX9_worth_75 ?_
          refine lv_iload_n X.1 X.2.1 dX9_worth_78 rfl (lv_at hl 0 rfl) ?_
          obtain ⟨hi_, h⟩ := h
          refine r_ial X hw 15 0 rfl rfl hi_ dX9_worth_79 ?_
          refine lv_topi (fun x_3 ex_3 => ?_)
          have h := h x_3 ex_3
          refine lv_istore (lv' := [(5, .int x_3), (3, .int x_2), (4, .int x_1), (0, .ref (η 0)), (2, .int x2)]) X.1 X.2.1 dX9_worth_80 hl (by decide) rfl (fun ls hl => ?_)
          refine lv_aload_n X.1 X.2.1 dX9_worth_82 rfl (lv_at hl 3 rfl) ?_
          refine r_gf X inX9_worth_X9 hw 0 rfl rfl 23 (by decide) (X.2.2.2.2 (.fieldLink RX9 82 "TestHallModel" "pile" "[I") (by decide +kernel)) rfl rfl dX9_worth_83 ?_
          refine lv_iload_n X.1 X.2.1 dX9_worth_86 rfl (lv_at hl 1 rfl) ?_
          refine lv_iconst (v := (1 : Int32)) X.1 X.2.1 dX9_worth_87 (by decide) ?_
          refine lv_isub X.1 X.2.1 dX9_worth_88 ?_
          obtain ⟨hi_, h⟩ := h
          refine r_ial X hw 15 0 rfl rfl hi_ dX9_worth_89 ?_
          refine lv_topi (fun x_4 ex_4 => ?_)
          have h := h x_4 ex_4
          refine lv_istore (lv' := [(6, .int x_4), (5, .int x_3), (3, .int x_2), (4, .int x_1), (0, .ref (η 0)), (2, .int x2)]) X.1 X.2.1 dX9_worth_90 hl (by decide) rfl (fun ls hl => ?_)
          refine lv_aload_n X.1 X.2.1 dX9_worth_92 rfl (lv_at hl 4 rfl) ?_
          refine r_gf X inX9_worth_X9 hw 0 rfl rfl 23 (by decide) (X.2.2.2.2 (.fieldLink RX9 82 "TestHallModel" "pile" "[I") (by decide +kernel)) rfl rfl dX9_worth_93 ?_
          refine lv_iload_n X.1 X.2.1 dX9_worth_96 rfl (lv_at hl 2 rfl) ?_
          refine lv_iconst (v := (1 : Int32)) X.1 X.2.1 dX9_worth_97 (by decide) ?_
          refine lv_isub X.1 X.2.1 dX9_worth_98 ?_
          refine lv_iload X.1 X.2.1 dX9_worth_99 (lv_at hl 3 rfl) ?_
          refine lv_iconst (v := (3 : Int32)) X.1 X.2.1 dX9_worth_101 (by decide) ?_
          obtain ⟨ht_, hf_⟩ := h
          refine lv_icmp_ne (tgt := 113) X.1 X.2.1 dX9_worth_102 (by decide) (fun c_ => ?_) (fun c_ => ?_)
          · have h := ht_ c_
            refine lv_iload X.1 X.2.1 dX9_worth_113 (lv_at hl 3 rfl) ?_
            refine lv_iconst (v := (4 : Int32)) X.1 X.2.1 dX9_worth_115 (by decide) ?_
            obtain ⟨ht_, hf_⟩ := h
            refine lv_icmp_ne (tgt := 127) X.1 X.2.1 dX9_worth_116 (by decide) (fun c_ => ?_) (fun c_ => ?_)
            · have h := ht_ c_
              refine lv_iload X.1 X.2.1 dX9_worth_127 (lv_at hl 3 rfl) ?_
              refine lv_iconst (v := (5 : Int32)) X.1 X.2.1 dX9_worth_129 (by decide) ?_
              obtain ⟨ht_, hf_⟩ := h
              refine lv_icmp_ne (tgt := 148) X.1 X.2.1 dX9_worth_130 (by decide) (fun c_ => ?_) (fun c_ => ?_)
              · have h := ht_ c_
                refine lv_iload X.1 X.2.1 dX9_worth_148 (lv_at hl 3 rfl) ?_
                refine lv_bipush (v := (6 : Int32)) X.1 X.2.1 dX9_worth_150 (by decide) ?_
                obtain ⟨ht_, hf_⟩ := h
                refine lv_icmp_ne (tgt := 170) X.1 X.2.1 dX9_worth_152 (by decide) (fun c_ => ?_) (fun c_ => ?_)
                · have h := ht_ c_
                  refine lv_iload X.1 X.2.1 dX9_worth_170 (lv_at hl 0 rfl) ?_
                  obtain ⟨ht_, hf_⟩ := h
                  refine lv_if_eq (tgt := 184) X.1 X.2.1 dX9_worth_172 (by decide) (fun c_ => ?_) (fun c_ => ?_)
                  · have h := ht_ c_
                    exact bX9_worth_184 X hr hlk hK4 M x2 x_2 (x_2 - (1 : Int32)) _ _ _ h hw (lv_sub hl [4, 5, 2] rfl)
                  · have h := hf_ c_
                    refine lv_iload X.1 X.2.1 dX9_worth_175 (lv_at hl 1 rfl) ?_
                    obtain ⟨ht_, hf_⟩ := h
                    refine lv_if_eq (tgt := 184) X.1 X.2.1 dX9_worth_177 (by decide) (fun c_ => ?_) (fun c_ => ?_)
                    · have h := ht_ c_
                      exact bX9_worth_184 X hr hlk hK4 M x2 x_2 (x_2 - (1 : Int32)) _ _ _ h hw (lv_sub hl [4, 5, 2] rfl)
                    · have h := hf_ c_
                      refine lv_iconst (v := (1 : Int32)) X.1 X.2.1 dX9_worth_180 (by decide) ?_
                      refine lv_goto (tgt := 185) X.1 X.2.1 dX9_worth_181 (by decide) ?_
                      exact bX9_worth_185 X hr hlk hK4 M x2 x_2 (1 : Int32) (x_2 - (1 : Int32)) _ _ _ h hw (lv_sub hl [4, 5, 2] rfl)
                · have h := hf_ c_
                  refine lv_iload X.1 X.2.1 dX9_worth_155 (lv_at hl 0 rfl) ?_
                  refine lv_iload X.1 X.2.1 dX9_worth_157 (lv_at hl 1 rfl) ?_
                  obtain ⟨ht_, hf_⟩ := h
                  refine lv_icmp_ne (tgt := 166) X.1 X.2.1 dX9_worth_159 (by decide) (fun c_ => ?_) (fun c_ => ?_)
                  · have h := ht_ c_
                    refine lv_iconst (v := (0 : Int32)) X.1 X.2.1 dX9_worth_166 (by decide) ?_
                    refine lv_goto (tgt := 185) X.1 X.2.1 dX9_worth_167 (by decide) ?_
                    exact bX9_worth_185 X hr hlk hK4 M x2 x_2 (0 : Int32) (x_2 - (1 : Int32)) _ _ _ h hw (lv_sub hl [4, 5, 2] rfl)
                  · have h := hf_ c_
                    refine lv_iconst (v := (1 : Int32)) X.1 X.2.1 dX9_worth_162 (by decide) ?_
                    refine lv_goto (tgt := 185) X.1 X.2.1 dX9_worth_163 (by decide) ?_
                    exact bX9_worth_185 X hr hlk hK4 M x2 x_2 (1 : Int32) (x_2 - (1 : Int32)) _ _ _ h hw (lv_sub hl [4, 5, 2] rfl)
              · have h := hf_ c_
                refine lv_iload X.1 X.2.1 dX9_worth_133 (lv_at hl 0 rfl) ?_
                refine lv_iload X.1 X.2.1 dX9_worth_135 (lv_at hl 1 rfl) ?_
                obtain ⟨ht_, hf_⟩ := h
                refine lv_icmp_ge (tgt := 144) X.1 X.2.1 dX9_worth_137 (by decide) (fun c_ => ?_) (fun c_ => ?_)
                · have h := ht_ c_
                  refine lv_iconst (v := (0 : Int32)) X.1 X.2.1 dX9_worth_144 (by decide) ?_
                  refine lv_goto (tgt := 185) X.1 X.2.1 dX9_worth_145 (by decide) ?_
                  exact bX9_worth_185 X hr hlk hK4 M x2 x_2 (0 : Int32) (x_2 - (1 : Int32)) _ _ _ h hw (lv_sub hl [4, 5, 2] rfl)
                · have h := hf_ c_
                  refine lv_iconst (v := (1 : Int32)) X.1 X.2.1 dX9_worth_140 (by decide) ?_
                  refine lv_goto (tgt := 185) X.1 X.2.1 dX9_worth_141 (by decide) ?_
                  exact bX9_worth_185 X hr hlk hK4 M x2 x_2 (1 : Int32) (x_2 - (1 : Int32)) _ _ _ h hw (lv_sub hl [4, 5, 2] rfl)
            · have h := hf_ c_
              refine lv_iload X.1 X.2.1 dX9_worth_119 (lv_at hl 0 rfl) ?_
              refine lv_iload X.1 X.2.1 dX9_worth_121 (lv_at hl 1 rfl) ?_
              refine lv_isub X.1 X.2.1 dX9_worth_123 ?_
              refine lv_goto (tgt := 185) X.1 X.2.1 dX9_worth_124 (by decide) ?_
              exact bX9_worth_185 X hr hlk hK4 M x2 x_2 (x_4 - x_3) (x_2 - (1 : Int32)) _ _ _ h hw (lv_sub hl [4, 5, 2] rfl)
          · have h := hf_ c_
            refine lv_iload X.1 X.2.1 dX9_worth_105 (lv_at hl 0 rfl) ?_
            refine lv_iload X.1 X.2.1 dX9_worth_107 (lv_at hl 1 rfl) ?_
            refine lv_iadd X.1 X.2.1 dX9_worth_109 ?_
            refine lv_goto (tgt := 185) X.1 X.2.1 dX9_worth_110 (by decide) ?_
            exact bX9_worth_185 X hr hlk hK4 M x2 x_2 (x_4 + x_3) (x_2 - (1 : Int32)) _ _ _ h hw (lv_sub hl [4, 5, 2] rfl)
        · have h := hf_ c_
          exact bX9_worth_33 X hr hlk hK4 M x2 x3 x_1 _ _ _ h hw (lv_sub hl [1, 2, 3, 0] rfl)
def wX9_worth (M : Sg) (a1 : Int32) (Q : Sg → Int32 → Prop) : Prop := (∃ g4_ : Nat, vX9_worth_4 Q g4_ M a1 (0 : Int32))
set_option maxHeartbeats 4000000 in
set_option maxRecDepth 100000 in
theorem kX9_worth {l : Launch} {D : va_G} {κ : Nat → ClassId} {η : Nat → Nat} {σ : (Nat → Nat) × (Nat → Nat)} {M : Sg} {a1 : Int32} {Q : Sg → Int32 → Prop} (h : wX9_worth M a1 Q) : Ki (cN σ) D (Ky κ) (mw κ η) l yX9_worth wsX9_worth rmX9_worth [.ref (η 0), .int a1] M Q := by
  refine ofW_g (Qc := fun A => Qi D (Ky κ) (mw κ η) A Q) (cc := cX9_worth) (maxL := 7) (ret := (some .int)) (by decide) rfl (Nat.le_of_ble_eq_true rfl) ?_
  intro p e s m args below meth c A ls X hr hlk hw hl
  have hl : lv_has ls 7 [(0, .ref (η 0)), (1, .int a1)] := hl
  refine lv_iload_n X.1 X.2.1 dX9_worth_0 rfl (lv_at hl 1 rfl) ?_
  refine lv_istore_n (lv' := [(2, .int a1), (0, .ref (η 0)), (1, .int a1)]) X.1 X.2.1 dX9_worth_1 rfl hl (by decide) rfl (fun ls hl => ?_)
  refine lv_iconst (v := (0 : Int32)) X.1 X.2.1 dX9_worth_2 (by decide) ?_
  refine lv_istore_n (lv' := [(3, .int (0 : Int32)), (2, .int a1), (0, .ref (η 0)), (1, .int a1)]) X.1 X.2.1 dX9_worth_3 rfl hl (by decide) rfl (fun ls hl => ?_)
  obtain ⟨f_, h⟩ := h
  exact bX9_worth_4 X hr hlk f_ M a1 (0 : Int32) _ _ _ h hw (lv_sub hl [2, 1, 0] rfl)

theorem inX9_examiner_X9 : ∀ w ∈ wsX90, w ∈ wsX9_examiner := fun w h => List.mem_cons_of_mem _ (List.mem_append_right _ h)
abbrev rmX9_examiner : Room := { frames := 0, cells := 0, slots := 0, locals := 0 }
def wX9_examiner (M : Sg) (Q : Sg → Int32 → Prop) : Prop := (∀ (M_1 : Sg), M_1 = sI M 0 (0 : Int32) → ((¬ (gI M_1 25) = (8 : Int32) → (∀ (M_2 : Sg), M_2 = sI M_1 25 ((gI M_1 25) + (1 : Int32)) → (Q M_2 ((gI M_2 25) - (1 : Int32))))) ∧ ((gI M_1 25) = (8 : Int32) → (Q M_1 (-1 : Int32)))))
set_option maxHeartbeats 4000000 in
set_option maxRecDepth 100000 in
theorem kX9_examiner {l : Launch} {D : va_G} {κ : Nat → ClassId} {η : Nat → Nat} {σ : (Nat → Nat) × (Nat → Nat)} {M : Sg} {Q : Sg → Int32 → Prop} (h : wX9_examiner M Q) : Ki (cN σ) D (Ky κ) (mw κ η) l yX9_examiner wsX9_examiner rmX9_examiner [.ref (η 0)] M Q := by
  refine ofW_g (Qc := fun A => Qi D (Ky κ) (mw κ η) A Q) (cc := cX9_examiner) (maxL := 1) (ret := (some .int)) (by decide) rfl (Nat.le_of_ble_eq_true rfl) ?_
  intro p e s m args below meth c A ls X hr hlk hw hl
  have hl : lv_has ls 1 [(0, .ref (η 0))] := hl
  refine lv_aload_n X.1 X.2.1 dX9_examiner_0 rfl (lv_at hl 0 rfl) ?_
  refine lv_iconst (v := (0 : Int32)) X.1 X.2.1 dX9_examiner_1 (by decide) ?_
  refine r_pf (ty := .int) (w' := mw κ η (sI M 0 (0 : Int32))) X inX9_examiner_X9 tyX9_ok nmX9 hw 0 rfl rfl 0 (by decide) (X.2.2.2.2 (.fieldLink RX9 1 "TestHallModel" "thrown" "I") (by decide +kernel)) rfl rfl (by decide +kernel) rfl rfl (Nat.le_of_ble_eq_true rfl) rfl dX9_examiner_2 (fun H locs hw => ?_)
  obtain ⟨M_1, eM_1⟩ : ∃ y : Sg, y = sI M 0 (0 : Int32) := ⟨_, rfl⟩
  rw [← eM_1] at hw
  have h := h M_1 eM_1
  refine lv_aload_n X.1 X.2.1 dX9_examiner_5 rfl (lv_at hl 0 rfl) ?_
  refine r_gf X inX9_examiner_X9 hw 0 rfl rfl 25 (by decide) (X.2.2.2.2 (.fieldLink RX9 249 "TestHallModel" "examiners" "I") (by decide +kernel)) rfl rfl dX9_examiner_6 ?_
  refine lv_bipush (v := (8 : Int32)) X.1 X.2.1 dX9_examiner_9 (by decide) ?_
  obtain ⟨ht_, hf_⟩ := h
  refine lv_icmp_ne (tgt := 16) X.1 X.2.1 dX9_examiner_11 (by decide) (fun c_ => ?_) (fun c_ => ?_)
  · have h := ht_ c_
    refine lv_aload_n X.1 X.2.1 dX9_examiner_16 rfl (lv_at hl 0 rfl) ?_
    refine lv_dup X.1 X.2.1 dX9_examiner_17 rfl ?_
    refine r_gf X inX9_examiner_X9 hw 0 rfl rfl 25 (by decide) (X.2.2.2.2 (.fieldLink RX9 249 "TestHallModel" "examiners" "I") (by decide +kernel)) rfl rfl dX9_examiner_18 ?_
    refine lv_iconst (v := (1 : Int32)) X.1 X.2.1 dX9_examiner_21 (by decide) ?_
    refine lv_iadd X.1 X.2.1 dX9_examiner_22 ?_
    refine r_pf (ty := .int) (w' := mw κ η (sI M_1 25 ((gI M_1 25) + (1 : Int32)))) X inX9_examiner_X9 tyX9_ok nmX9 hw 0 rfl rfl 25 (by decide) (X.2.2.2.2 (.fieldLink RX9 249 "TestHallModel" "examiners" "I") (by decide +kernel)) rfl rfl (by decide +kernel) rfl rfl (Nat.le_of_ble_eq_true rfl) rfl dX9_examiner_23 (fun H locs hw => ?_)
    obtain ⟨M_2, eM_2⟩ : ∃ y : Sg, y = sI M_1 25 ((gI M_1 25) + (1 : Int32)) := ⟨_, rfl⟩
    rw [← eM_2] at hw
    have h := h M_2 eM_2
    refine lv_aload_n X.1 X.2.1 dX9_examiner_26 rfl (lv_at hl 0 rfl) ?_
    refine r_gf X inX9_examiner_X9 hw 0 rfl rfl 25 (by decide) (X.2.2.2.2 (.fieldLink RX9 249 "TestHallModel" "examiners" "I") (by decide +kernel)) rfl rfl dX9_examiner_27 ?_
    refine lv_iconst (v := (1 : Int32)) X.1 X.2.1 dX9_examiner_30 (by decide) ?_
    refine lv_isub X.1 X.2.1 dX9_examiner_31 ?_
    exact r_ret X hr hlk hw h dX9_examiner_32
  · have h := hf_ c_
    refine lv_iconst (v := (-1 : Int32)) X.1 X.2.1 dX9_examiner_14 (by decide) ?_
    exact r_ret X hr hlk hw h dX9_examiner_15

theorem inX9_hasHour_X9 : ∀ w ∈ wsX90, w ∈ wsX9_hasHour := fun w h => List.mem_cons_of_mem _ (List.mem_append_right _ h)
abbrev rmX9_hasHour : Room := { frames := 0, cells := 0, slots := 0, locals := 0 }
def vX9_hasHour_41 (Q : Sg → Int32 → Prop) (M : Sg) (x3 : Int32) (x4 : Int32) (s0 : Int32) : Prop := ((0 < x3 → (Q M (1 : Int32))) ∧ (¬ 0 < x3 → ((s0 < 0 → (Q M (1 : Int32))) ∧ (¬ s0 < 0 → ((¬ s0 = x4 → (Q M (0 : Int32))) ∧ (s0 = x4 → (Q M (1 : Int32))))))))
set_option maxHeartbeats 4000000 in
set_option maxRecDepth 100000 in
theorem bX9_hasHour_41 {p : Program} {l : Launch} {e : Env} {s : State} {m : MethodId} {args : Array Value} {below : List Frame} {meth : Method} {c : Code} {D : va_G} {κ : Nat → ClassId} {η : Nat → Nat} {σ : (Nat → Nat) × (Nat → Nat)} {A : Nat → Prop} {Q : Sg → Int32 → Prop} (X : CallFix p m c cX9_hasHour 6 s args wsX9_hasHour RX9) (hr : meth.sig.returnType = (some .boolean)) (hlk : meth.locks = false) : ∀ (M : Sg) (x3 : Int32) (x4 : Int32) (s0 : Int32) (H : Heap) (locs : List Loc) (ls : Array Slot), vX9_hasHour_41 Q M x3 x4 s0 → Wd (cN σ) D (Ky κ) A s (mw κ η M) H locs → lv_has ls 6 [(3, .int x3), (4, .int x4)] → W p l e rmX9_hasHour s m args below meth c H locs 0 0 (MQ below (Qi D (Ky κ) (mw κ η) A Q) args s 0 0 A) (F0 m 41 ls [.int s0]) := by
  intro M x3 x4 s0 H locs ls h hw hl
  refine lv_istore (lv' := [(5, .int s0), (3, .int x3), (4, .int x4)]) X.1 X.2.1 dX9_hasHour_41 hl (by decide) rfl (fun ls hl => ?_)
  refine lv_iload_n X.1 X.2.1 dX9_hasHour_43 rfl (lv_at hl 1 rfl) ?_
  obtain ⟨ht_, hf_⟩ := h
  refine lv_if_gt (tgt := 59) X.1 X.2.1 dX9_hasHour_44 (by decide) (fun c_ => ?_) (fun c_ => ?_)
  · have h := ht_ c_
    refine lv_iconst (v := (1 : Int32)) X.1 X.2.1 dX9_hasHour_59 (by decide) ?_
    refine lv_goto (tgt := 64) X.1 X.2.1 dX9_hasHour_60 (by decide) ?_
    exact r_zret X hr hlk hw rfl h dX9_hasHour_64
  · have h := hf_ c_
    refine lv_iload X.1 X.2.1 dX9_hasHour_47 (lv_at hl 0 rfl) ?_
    obtain ⟨ht_, hf_⟩ := h
    refine lv_if_lt (tgt := 59) X.1 X.2.1 dX9_hasHour_49 (by decide) (fun c_ => ?_) (fun c_ => ?_)
    · have h := ht_ c_
      refine lv_iconst (v := (1 : Int32)) X.1 X.2.1 dX9_hasHour_59 (by decide) ?_
      refine lv_goto (tgt := 64) X.1 X.2.1 dX9_hasHour_60 (by decide) ?_
      exact r_zret X hr hlk hw rfl h dX9_hasHour_64
    · have h := hf_ c_
      refine lv_iload X.1 X.2.1 dX9_hasHour_52 (lv_at hl 0 rfl) ?_
      refine lv_iload X.1 X.2.1 dX9_hasHour_54 (lv_at hl 2 rfl) ?_
      obtain ⟨ht_, hf_⟩ := h
      refine lv_icmp_ne (tgt := 63) X.1 X.2.1 dX9_hasHour_56 (by decide) (fun c_ => ?_) (fun c_ => ?_)
      · have h := ht_ c_
        refine lv_iconst (v := (0 : Int32)) X.1 X.2.1 dX9_hasHour_63 (by decide) ?_
        exact r_zret X hr hlk hw rfl h dX9_hasHour_64
      · have h := hf_ c_
        refine lv_iconst (v := (1 : Int32)) X.1 X.2.1 dX9_hasHour_59 (by decide) ?_
        refine lv_goto (tgt := 64) X.1 X.2.1 dX9_hasHour_60 (by decide) ?_
        exact r_zret X hr hlk hw rfl h dX9_hasHour_64
def wX9_hasHour (M : Sg) (a1 : Int32) (a2 : Int32) (a3 : Int32) (Q : Sg → Int32 → Prop) : Prop := (vp_in (((60 : Int32) * a1) + a2) 480 ∧ (∀ (x_1 : Int32), x_1 = (gA M 26 (((60 : Int32) * a1) + a2).toNatClampNeg) → ((0 ≤ x_1 → ((¬ a2 = 0 → (vp_in ((((60 : Int32) * a1) + a2) - (1 : Int32)) 480 ∧ (vX9_hasHour_41 Q M a3 x_1 (gA M 26 ((((60 : Int32) * a1) + a2) - (1 : Int32)).toNatClampNeg)))) ∧ (a2 = 0 → (vX9_hasHour_41 Q M a3 x_1 (-1 : Int32))))) ∧ (¬ 0 ≤ x_1 → (Q M (0 : Int32))))))
set_option maxHeartbeats 4000000 in
set_option maxRecDepth 100000 in
theorem kX9_hasHour {l : Launch} {D : va_G} {κ : Nat → ClassId} {η : Nat → Nat} {σ : (Nat → Nat) × (Nat → Nat)} {M : Sg} {a1 : Int32} {a2 : Int32} {a3 : Int32} {Q : Sg → Int32 → Prop} (h : wX9_hasHour M a1 a2 a3 Q) : Ki (cN σ) D (Ky κ) (mw κ η) l yX9_hasHour wsX9_hasHour rmX9_hasHour [.ref (η 0), .int a1, .int a2, .int a3] M Q := by
  refine ofW_g (Qc := fun A => Qi D (Ky κ) (mw κ η) A Q) (cc := cX9_hasHour) (maxL := 6) (ret := (some .boolean)) (by decide) rfl (Nat.le_of_ble_eq_true rfl) ?_
  intro p e s m args below meth c A ls X hr hlk hw hl
  have hl : lv_has ls 6 [(0, .ref (η 0)), (1, .int a1), (2, .int a2), (3, .int a3)] := hl
  refine lv_aload_n X.1 X.2.1 dX9_hasHour_0 rfl (lv_at hl 0 rfl) ?_
  refine r_gf X inX9_hasHour_X9 hw 0 rfl rfl 26 (by decide) (X.2.2.2.2 (.fieldLink RX9 85 "TestHallModel" "town" "[I") (by decide +kernel)) rfl rfl dX9_hasHour_1 ?_
  refine lv_bipush (v := (60 : Int32)) X.1 X.2.1 dX9_hasHour_4 (by decide) ?_
  refine lv_iload_n X.1 X.2.1 dX9_hasHour_6 rfl (lv_at hl 1 rfl) ?_
  refine lv_imul X.1 X.2.1 dX9_hasHour_7 ?_
  refine lv_iload_n X.1 X.2.1 dX9_hasHour_8 rfl (lv_at hl 2 rfl) ?_
  refine lv_iadd X.1 X.2.1 dX9_hasHour_9 ?_
  obtain ⟨hi_, h⟩ := h
  refine r_ial X hw 16 0 rfl rfl hi_ dX9_hasHour_10 ?_
  refine lv_topi (fun x_1 ex_1 => ?_)
  have h := h x_1 ex_1
  refine lv_istore (lv' := [(4, .int x_1), (0, .ref (η 0)), (1, .int a1), (2, .int a2), (3, .int a3)]) X.1 X.2.1 dX9_hasHour_11 hl (by decide) rfl (fun ls hl => ?_)
  refine lv_iload X.1 X.2.1 dX9_hasHour_13 (lv_at hl 0 rfl) ?_
  obtain ⟨ht_, hf_⟩ := h
  refine lv_if_ge (tgt := 20) X.1 X.2.1 dX9_hasHour_15 (by decide) (fun c_ => ?_) (fun c_ => ?_)
  · have h := ht_ c_
    refine lv_iload_n X.1 X.2.1 dX9_hasHour_20 rfl (lv_at hl 3 rfl) ?_
    obtain ⟨ht_, hf_⟩ := h
    refine lv_if_ne (tgt := 28) X.1 X.2.1 dX9_hasHour_21 (by decide) (fun c_ => ?_) (fun c_ => ?_)
    · have h := ht_ c_
      refine lv_aload_n X.1 X.2.1 dX9_hasHour_28 rfl (lv_at hl 1 rfl) ?_
      refine r_gf X inX9_hasHour_X9 hw 0 rfl rfl 26 (by decide) (X.2.2.2.2 (.fieldLink RX9 85 "TestHallModel" "town" "[I") (by decide +kernel)) rfl rfl dX9_hasHour_29 ?_
      refine lv_bipush (v := (60 : Int32)) X.1 X.2.1 dX9_hasHour_32 (by decide) ?_
      refine lv_iload_n X.1 X.2.1 dX9_hasHour_34 rfl (lv_at hl 2 rfl) ?_
      refine lv_imul X.1 X.2.1 dX9_hasHour_35 ?_
      refine lv_iload_n X.1 X.2.1 dX9_hasHour_36 rfl (lv_at hl 3 rfl) ?_
      refine lv_iadd X.1 X.2.1 dX9_hasHour_37 ?_
      refine lv_iconst (v := (1 : Int32)) X.1 X.2.1 dX9_hasHour_38 (by decide) ?_
      refine lv_isub X.1 X.2.1 dX9_hasHour_39 ?_
      obtain ⟨hi_, h⟩ := h
      refine r_ial X hw 16 0 rfl rfl hi_ dX9_hasHour_40 ?_
      exact bX9_hasHour_41 X hr hlk M a3 x_1 (gA M 26 ((((60 : Int32) * a1) + a2) - (1 : Int32)).toNatClampNeg) _ _ _ h hw (lv_sub hl [4, 0] rfl)
    · have h := hf_ c_
      refine lv_iconst (v := (-1 : Int32)) X.1 X.2.1 dX9_hasHour_24 (by decide) ?_
      refine lv_goto (tgt := 41) X.1 X.2.1 dX9_hasHour_25 (by decide) ?_
      exact bX9_hasHour_41 X hr hlk M a3 x_1 (-1 : Int32) _ _ _ h hw (lv_sub hl [4, 0] rfl)
  · have h := hf_ c_
    refine lv_iconst (v := (0 : Int32)) X.1 X.2.1 dX9_hasHour_18 (by decide) ?_
    exact r_zret X hr hlk hw rfl h dX9_hasHour_19

abbrev rmX9_isThere : Room := { frames := 1, cells := 0, slots := 0, locals := 25 }
def wX9_isThere (M : Sg) (a1 : Int32) (Q : Sg → Int32 → Prop) : Prop := (wX9_hasHour M (a1 - a1 / (8 : Int32) * (8 : Int32)) (a1 / (48 : Int32)) ((a1 - a1 / (48 : Int32) * (48 : Int32)) / (8 : Int32)) (fun M_1 r_2 => (narrow .boolean (.int r_2) = .int r_2 ∧ Q M_1 r_2)))
set_option maxHeartbeats 4000000 in
set_option maxRecDepth 100000 in
theorem kX9_isThere {l : Launch} {D : va_G} {κ : Nat → ClassId} {η : Nat → Nat} {σ : (Nat → Nat) × (Nat → Nat)} {M : Sg} {a1 : Int32} {Q : Sg → Int32 → Prop} (h : wX9_isThere M a1 Q) : Ki (cN σ) D (Ky κ) (mw κ η) l yX9_isThere wsX9_isThere rmX9_isThere [.ref (η 0), .int a1] M Q := by
  refine ofW_g (Qc := fun A => Qi D (Ky κ) (mw κ η) A Q) (cc := cX9_isThere) (maxL := 2) (ret := (some .boolean)) (by decide) rfl (Nat.le_of_ble_eq_true rfl) ?_
  intro p e s m args below meth c A ls X hr hlk hw hl
  have hl : lv_has ls 2 [(0, .ref (η 0)), (1, .int a1)] := hl
  refine lv_aload_n X.1 X.2.1 dX9_isThere_0 rfl (lv_at hl 0 rfl) ?_
  refine lv_iload_n X.1 X.2.1 dX9_isThere_1 rfl (lv_at hl 1 rfl) ?_
  refine lv_bipush (v := (8 : Int32)) X.1 X.2.1 dX9_isThere_2 (by decide) ?_
  refine lv_irem X.1 X.2.1 dX9_isThere_4 (by decide) ?_
  refine lv_iload_n X.1 X.2.1 dX9_isThere_5 rfl (lv_at hl 1 rfl) ?_
  refine lv_bipush (v := (48 : Int32)) X.1 X.2.1 dX9_isThere_6 (by decide) ?_
  refine lv_idiv X.1 X.2.1 dX9_isThere_8 (by decide) ?_
  refine lv_iload_n X.1 X.2.1 dX9_isThere_9 rfl (lv_at hl 1 rfl) ?_
  refine lv_bipush (v := (48 : Int32)) X.1 X.2.1 dX9_isThere_10 (by decide) ?_
  refine lv_irem X.1 X.2.1 dX9_isThere_12 (by decide) ?_
  refine lv_bipush (v := (8 : Int32)) X.1 X.2.1 dX9_isThere_13 (by decide) ?_
  refine lv_idiv X.1 X.2.1 dX9_isThere_15 (by decide) ?_
  refine r_Vi (As := [.int (a1 - a1 / (8 : Int32) * (8 : Int32)), .int (a1 / (48 : Int32)), .int ((a1 - a1 / (48 : Int32) * (48 : Int32)) / (8 : Int32))]) (rest := []) X cN_ok (kX9_hasHour h) (cwV 3 X.2.2.2.2 gX9_isThere_X9_hasHour rfl rfl rfl (by decide +kernel) ⟨Nat.le_of_ble_eq_true rfl, Nat.le_of_ble_eq_true rfl⟩) hw 0 8 rfl rfl rfl hl.1 rfl (Nat.le_of_ble_eq_true rfl) dX9_isThere_16 (fun r_2 M_1 H locs h hw => ?_)
  obtain ⟨hn_, h⟩ := h
  exact r_zret X hr hlk hw hn_ h dX9_isThere_19

theorem inX9_learner_X9 : ∀ w ∈ wsX90, w ∈ wsX9_learner := fun w h => List.mem_cons_of_mem _ (List.mem_append_right _ h)
abbrev rmX9_learner : Room := { frames := 0, cells := 0, slots := 0, locals := 0 }
def wX9_learner (M : Sg) (a1 : Int32) (a2 : Int32) (a3 : Int32) (a4 : Int32) (a5 : Int32) (a6 : Int32) (Q : Sg → Int32 → Prop) : Prop := (∀ (M_1 : Sg), M_1 = sI M 0 (0 : Int32) → ((a1 < 0 → (Q M_1 (-1 : Int32))) ∧ (¬ a1 < 0 → (((5 : Int32) < a1 → (Q M_1 (-1 : Int32))) ∧ (¬ (5 : Int32) < a1 → ((a2 < 0 → (Q M_1 (-1 : Int32))) ∧ (¬ a2 < 0 → (((3 : Int32) < a2 → (Q M_1 (-1 : Int32))) ∧ (¬ (3 : Int32) < a2 → ((a3 < 0 → (Q M_1 (-1 : Int32))) ∧ (¬ a3 < 0 → (((59 : Int32) < a4 → (Q M_1 (-1 : Int32))) ∧ (¬ (59 : Int32) < a4 → ((a4 < a3 → (Q M_1 (-1 : Int32))) ∧ (¬ a4 < a3 → ((a5 < 0 → (Q M_1 (-1 : Int32))) ∧ (¬ a5 < 0 → (((59 : Int32) < a5 → (Q M_1 (-1 : Int32))) ∧ (¬ (59 : Int32) < a5 → ((¬ (gI M_1 30) = (60 : Int32) → (vp_in (gI M_1 30) 60 ∧ (∀ (M_2 : Sg), M_2 = sA M_1 31 (gI M_1 30).toNatClampNeg a1 → (vp_in (gI M_2 30) 60 ∧ (∀ (M_3 : Sg), M_3 = sA M_2 32 (gI M_2 30).toNatClampNeg a2 → (vp_in (gI M_3 30) 60 ∧ (∀ (M_4 : Sg), M_4 = sA M_3 33 (gI M_3 30).toNatClampNeg a3 → (vp_in (gI M_4 30) 60 ∧ (∀ (M_5 : Sg), M_5 = sA M_4 34 (gI M_4 30).toNatClampNeg a4 → (vp_in (gI M_5 30) 60 ∧ (∀ (M_6 : Sg), M_6 = sA M_5 35 (gI M_5 30).toNatClampNeg a5 → (vp_in (gI M_6 30) 60 ∧ (∀ (M_7 : Sg), M_7 = sA M_6 36 (gI M_6 30).toNatClampNeg (vp_nar .boolean a6) → (vp_in (gI M_7 30) 60 ∧ (∀ (M_8 : Sg), M_8 = sA M_7 37 (gI M_7 30).toNatClampNeg (gI M_7 24) → (vp_in (gI M_8 30) 60 ∧ (∀ (M_9 : Sg), M_9 = sA M_8 38 (gI M_8 30).toNatClampNeg (0 : Int32) → (vp_in (gI M_9 30) 60 ∧ (∀ (M_10 : Sg), M_10 = sA M_9 39 (gI M_9 30).toNatClampNeg (-1 : Int32) → (∀ (M_11 : Sg), M_11 = sI M_10 30 ((gI M_10 30) + (1 : Int32)) → (Q M_11 ((gI M_11 30) - (1 : Int32))))))))))))))))))))))) ∧ ((gI M_1 30) = (60 : Int32) → (Q M_1 (-1 : Int32)))))))))))))))))))))))
set_option maxHeartbeats 4000000 in
set_option maxRecDepth 100000 in
theorem kX9_learner {l : Launch} {D : va_G} {κ : Nat → ClassId} {η : Nat → Nat} {σ : (Nat → Nat) × (Nat → Nat)} {M : Sg} {a1 : Int32} {a2 : Int32} {a3 : Int32} {a4 : Int32} {a5 : Int32} {a6 : Int32} {Q : Sg → Int32 → Prop} (h : wX9_learner M a1 a2 a3 a4 a5 a6 Q) : Ki (cN σ) D (Ky κ) (mw κ η) l yX9_learner wsX9_learner rmX9_learner [.ref (η 0), .int a1, .int a2, .int a3, .int a4, .int a5, .int a6] M Q := by
  refine ofW_g (Qc := fun A => Qi D (Ky κ) (mw κ η) A Q) (cc := cX9_learner) (maxL := 7) (ret := (some .int)) (by decide) rfl (Nat.le_of_ble_eq_true rfl) ?_
  intro p e s m args below meth c A ls X hr hlk hw hl
  have hl : lv_has ls 7 [(0, .ref (η 0)), (1, .int a1), (2, .int a2), (3, .int a3), (4, .int a4), (5, .int a5), (6, .int a6)] := hl
  refine lv_aload_n X.1 X.2.1 dX9_learner_0 rfl (lv_at hl 0 rfl) ?_
  refine lv_iconst (v := (0 : Int32)) X.1 X.2.1 dX9_learner_1 (by decide) ?_
  refine r_pf (ty := .int) (w' := mw κ η (sI M 0 (0 : Int32))) X inX9_learner_X9 tyX9_ok nmX9 hw 0 rfl rfl 0 (by decide) (X.2.2.2.2 (.fieldLink RX9 1 "TestHallModel" "thrown" "I") (by decide +kernel)) rfl rfl (by decide +kernel) rfl rfl (Nat.le_of_ble_eq_true rfl) rfl dX9_learner_2 (fun H locs hw => ?_)
  obtain ⟨M_1, eM_1⟩ : ∃ y : Sg, y = sI M 0 (0 : Int32) := ⟨_, rfl⟩
  rw [← eM_1] at hw
  have h := h M_1 eM_1
  refine lv_iload_n X.1 X.2.1 dX9_learner_5 rfl (lv_at hl 1 rfl) ?_
  obtain ⟨ht_, hf_⟩ := h
  refine lv_if_lt (tgt := 61) X.1 X.2.1 dX9_learner_6 (by decide) (fun c_ => ?_) (fun c_ => ?_)
  · have h := ht_ c_
    refine lv_iconst (v := (-1 : Int32)) X.1 X.2.1 dX9_learner_61 (by decide) ?_
    exact r_ret X hr hlk hw h dX9_learner_62
  · have h := hf_ c_
    refine lv_iload_n X.1 X.2.1 dX9_learner_9 rfl (lv_at hl 1 rfl) ?_
    refine lv_iconst (v := (5 : Int32)) X.1 X.2.1 dX9_learner_10 (by decide) ?_
    obtain ⟨ht_, hf_⟩ := h
    refine lv_icmp_gt (tgt := 61) X.1 X.2.1 dX9_learner_11 (by decide) (fun c_ => ?_) (fun c_ => ?_)
    · have h := ht_ c_
      refine lv_iconst (v := (-1 : Int32)) X.1 X.2.1 dX9_learner_61 (by decide) ?_
      exact r_ret X hr hlk hw h dX9_learner_62
    · have h := hf_ c_
      refine lv_iload_n X.1 X.2.1 dX9_learner_14 rfl (lv_at hl 2 rfl) ?_
      obtain ⟨ht_, hf_⟩ := h
      refine lv_if_lt (tgt := 61) X.1 X.2.1 dX9_learner_15 (by decide) (fun c_ => ?_) (fun c_ => ?_)
      · have h := ht_ c_
        refine lv_iconst (v := (-1 : Int32)) X.1 X.2.1 dX9_learner_61 (by decide) ?_
        exact r_ret X hr hlk hw h dX9_learner_62
      · have h := hf_ c_
        refine lv_iload_n X.1 X.2.1 dX9_learner_18 rfl (lv_at hl 2 rfl) ?_
        refine lv_iconst (v := (3 : Int32)) X.1 X.2.1 dX9_learner_19 (by decide) ?_
        obtain ⟨ht_, hf_⟩ := h
        refine lv_icmp_gt (tgt := 61) X.1 X.2.1 dX9_learner_20 (by decide) (fun c_ => ?_) (fun c_ => ?_)
        · have h := ht_ c_
          refine lv_iconst (v := (-1 : Int32)) X.1 X.2.1 dX9_learner_61 (by decide) ?_
          exact r_ret X hr hlk hw h dX9_learner_62
        · have h := hf_ c_
          refine lv_iload_n X.1 X.2.1 dX9_learner_23 rfl (lv_at hl 3 rfl) ?_
          obtain ⟨ht_, hf_⟩ := h
          refine lv_if_lt (tgt := 61) X.1 X.2.1 dX9_learner_24 (by decide) (fun c_ => ?_) (fun c_ => ?_)
          · have h := ht_ c_
            refine lv_iconst (v := (-1 : Int32)) X.1 X.2.1 dX9_learner_61 (by decide) ?_
            exact r_ret X hr hlk hw h dX9_learner_62
          · have h := hf_ c_
            refine lv_iload X.1 X.2.1 dX9_learner_27 (lv_at hl 4 rfl) ?_
            refine lv_bipush (v := (59 : Int32)) X.1 X.2.1 dX9_learner_29 (by decide) ?_
            obtain ⟨ht_, hf_⟩ := h
            refine lv_icmp_gt (tgt := 61) X.1 X.2.1 dX9_learner_31 (by decide) (fun c_ => ?_) (fun c_ => ?_)
            · have h := ht_ c_
              refine lv_iconst (v := (-1 : Int32)) X.1 X.2.1 dX9_learner_61 (by decide) ?_
              exact r_ret X hr hlk hw h dX9_learner_62
            · have h := hf_ c_
              refine lv_iload_n X.1 X.2.1 dX9_learner_34 rfl (lv_at hl 3 rfl) ?_
              refine lv_iload X.1 X.2.1 dX9_learner_35 (lv_at hl 4 rfl) ?_
              obtain ⟨ht_, hf_⟩ := h
              refine lv_icmp_gt (tgt := 61) X.1 X.2.1 dX9_learner_37 (by decide) (fun c_ => ?_) (fun c_ => ?_)
              · have h := ht_ c_
                refine lv_iconst (v := (-1 : Int32)) X.1 X.2.1 dX9_learner_61 (by decide) ?_
                exact r_ret X hr hlk hw h dX9_learner_62
              · have h := hf_ c_
                refine lv_iload X.1 X.2.1 dX9_learner_40 (lv_at hl 5 rfl) ?_
                obtain ⟨ht_, hf_⟩ := h
                refine lv_if_lt (tgt := 61) X.1 X.2.1 dX9_learner_42 (by decide) (fun c_ => ?_) (fun c_ => ?_)
                · have h := ht_ c_
                  refine lv_iconst (v := (-1 : Int32)) X.1 X.2.1 dX9_learner_61 (by decide) ?_
                  exact r_ret X hr hlk hw h dX9_learner_62
                · have h := hf_ c_
                  refine lv_iload X.1 X.2.1 dX9_learner_45 (lv_at hl 5 rfl) ?_
                  refine lv_bipush (v := (59 : Int32)) X.1 X.2.1 dX9_learner_47 (by decide) ?_
                  obtain ⟨ht_, hf_⟩ := h
                  refine lv_icmp_gt (tgt := 61) X.1 X.2.1 dX9_learner_49 (by decide) (fun c_ => ?_) (fun c_ => ?_)
                  · have h := ht_ c_
                    refine lv_iconst (v := (-1 : Int32)) X.1 X.2.1 dX9_learner_61 (by decide) ?_
                    exact r_ret X hr hlk hw h dX9_learner_62
                  · have h := hf_ c_
                    refine lv_aload_n X.1 X.2.1 dX9_learner_52 rfl (lv_at hl 0 rfl) ?_
                    refine r_gf X inX9_learner_X9 hw 0 rfl rfl 30 (by decide) (X.2.2.2.2 (.fieldLink RX9 256 "TestHallModel" "learners" "I") (by decide +kernel)) rfl rfl dX9_learner_53 ?_
                    refine lv_bipush (v := (60 : Int32)) X.1 X.2.1 dX9_learner_56 (by decide) ?_
                    obtain ⟨ht_, hf_⟩ := h
                    refine lv_icmp_ne (tgt := 63) X.1 X.2.1 dX9_learner_58 (by decide) (fun c_ => ?_) (fun c_ => ?_)
                    · have h := ht_ c_
                      refine lv_aload_n X.1 X.2.1 dX9_learner_63 rfl (lv_at hl 0 rfl) ?_
                      refine r_gf X inX9_learner_X9 hw 0 rfl rfl 31 (by decide) (X.2.2.2.2 (.fieldLink RX9 98 "TestHallModel" "home" "[I") (by decide +kernel)) rfl rfl dX9_learner_64 ?_
                      refine lv_aload_n X.1 X.2.1 dX9_learner_67 rfl (lv_at hl 0 rfl) ?_
                      refine r_gf X inX9_learner_X9 hw 0 rfl rfl 30 (by decide) (X.2.2.2.2 (.fieldLink RX9 256 "TestHallModel" "learners" "I") (by decide +kernel)) rfl rfl dX9_learner_68 ?_
                      refine lv_iload_n X.1 X.2.1 dX9_learner_71 rfl (lv_at hl 1 rfl) ?_
                      obtain ⟨hi_, h⟩ := h
                      refine r_ias (w' := mw κ η (sA M_1 31 (gI M_1 30).toNatClampNeg a1)) X hw 20 0 rfl rfl hi_ rfl dX9_learner_72 (fun H locs hw => ?_)
                      obtain ⟨M_2, eM_2⟩ : ∃ y : Sg, y = sA M_1 31 (gI M_1 30).toNatClampNeg a1 := ⟨_, rfl⟩
                      rw [← eM_2] at hw
                      have h := h M_2 eM_2
                      refine lv_aload_n X.1 X.2.1 dX9_learner_73 rfl (lv_at hl 0 rfl) ?_
                      refine r_gf X inX9_learner_X9 hw 0 rfl rfl 32 (by decide) (X.2.2.2.2 (.fieldLink RX9 101 "TestHallModel" "kind" "[I") (by decide +kernel)) rfl rfl dX9_learner_74 ?_
                      refine lv_aload_n X.1 X.2.1 dX9_learner_77 rfl (lv_at hl 0 rfl) ?_
                      refine r_gf X inX9_learner_X9 hw 0 rfl rfl 30 (by decide) (X.2.2.2.2 (.fieldLink RX9 256 "TestHallModel" "learners" "I") (by decide +kernel)) rfl rfl dX9_learner_78 ?_
                      refine lv_iload_n X.1 X.2.1 dX9_learner_81 rfl (lv_at hl 2 rfl) ?_
                      obtain ⟨hi_, h⟩ := h
                      refine r_ias (w' := mw κ η (sA M_2 32 (gI M_2 30).toNatClampNeg a2)) X hw 21 0 rfl rfl hi_ rfl dX9_learner_82 (fun H locs hw => ?_)
                      obtain ⟨M_3, eM_3⟩ : ∃ y : Sg, y = sA M_2 32 (gI M_2 30).toNatClampNeg a2 := ⟨_, rfl⟩
                      rw [← eM_3] at hw
                      have h := h M_3 eM_3
                      refine lv_aload_n X.1 X.2.1 dX9_learner_83 rfl (lv_at hl 0 rfl) ?_
                      refine r_gf X inX9_learner_X9 hw 0 rfl rfl 33 (by decide) (X.2.2.2.2 (.fieldLink RX9 104 "TestHallModel" "from" "[I") (by decide +kernel)) rfl rfl dX9_learner_84 ?_
                      refine lv_aload_n X.1 X.2.1 dX9_learner_87 rfl (lv_at hl 0 rfl) ?_
                      refine r_gf X inX9_learner_X9 hw 0 rfl rfl 30 (by decide) (X.2.2.2.2 (.fieldLink RX9 256 "TestHallModel" "learners" "I") (by decide +kernel)) rfl rfl dX9_learner_88 ?_
                      refine lv_iload_n X.1 X.2.1 dX9_learner_91 rfl (lv_at hl 3 rfl) ?_
                      obtain ⟨hi_, h⟩ := h
                      refine r_ias (w' := mw κ η (sA M_3 33 (gI M_3 30).toNatClampNeg a3)) X hw 22 0 rfl rfl hi_ rfl dX9_learner_92 (fun H locs hw => ?_)
                      obtain ⟨M_4, eM_4⟩ : ∃ y : Sg, y = sA M_3 33 (gI M_3 30).toNatClampNeg a3 := ⟨_, rfl⟩
                      rw [← eM_4] at hw
                      have h := h M_4 eM_4
                      refine lv_aload_n X.1 X.2.1 dX9_learner_93 rfl (lv_at hl 0 rfl) ?_
                      refine r_gf X inX9_learner_X9 hw 0 rfl rfl 34 (by decide) (X.2.2.2.2 (.fieldLink RX9 107 "TestHallModel" "to" "[I") (by decide +kernel)) rfl rfl dX9_learner_94 ?_
                      refine lv_aload_n X.1 X.2.1 dX9_learner_97 rfl (lv_at hl 0 rfl) ?_
                      refine r_gf X inX9_learner_X9 hw 0 rfl rfl 30 (by decide) (X.2.2.2.2 (.fieldLink RX9 256 "TestHallModel" "learners" "I") (by decide +kernel)) rfl rfl dX9_learner_98 ?_
                      refine lv_iload X.1 X.2.1 dX9_learner_101 (lv_at hl 4 rfl) ?_
                      obtain ⟨hi_, h⟩ := h
                      refine r_ias (w' := mw κ η (sA M_4 34 (gI M_4 30).toNatClampNeg a4)) X hw 23 0 rfl rfl hi_ rfl dX9_learner_103 (fun H locs hw => ?_)
                      obtain ⟨M_5, eM_5⟩ : ∃ y : Sg, y = sA M_4 34 (gI M_4 30).toNatClampNeg a4 := ⟨_, rfl⟩
                      rw [← eM_5] at hw
                      have h := h M_5 eM_5
                      refine lv_aload_n X.1 X.2.1 dX9_learner_104 rfl (lv_at hl 0 rfl) ?_
                      refine r_gf X inX9_learner_X9 hw 0 rfl rfl 35 (by decide) (X.2.2.2.2 (.fieldLink RX9 110 "TestHallModel" "wish" "[I") (by decide +kernel)) rfl rfl dX9_learner_105 ?_
                      refine lv_aload_n X.1 X.2.1 dX9_learner_108 rfl (lv_at hl 0 rfl) ?_
                      refine r_gf X inX9_learner_X9 hw 0 rfl rfl 30 (by decide) (X.2.2.2.2 (.fieldLink RX9 256 "TestHallModel" "learners" "I") (by decide +kernel)) rfl rfl dX9_learner_109 ?_
                      refine lv_iload X.1 X.2.1 dX9_learner_112 (lv_at hl 5 rfl) ?_
                      obtain ⟨hi_, h⟩ := h
                      refine r_ias (w' := mw κ η (sA M_5 35 (gI M_5 30).toNatClampNeg a5)) X hw 24 0 rfl rfl hi_ rfl dX9_learner_114 (fun H locs hw => ?_)
                      obtain ⟨M_6, eM_6⟩ : ∃ y : Sg, y = sA M_5 35 (gI M_5 30).toNatClampNeg a5 := ⟨_, rfl⟩
                      rw [← eM_6] at hw
                      have h := h M_6 eM_6
                      refine lv_aload_n X.1 X.2.1 dX9_learner_115 rfl (lv_at hl 0 rfl) ?_
                      refine r_gf X inX9_learner_X9 hw 0 rfl rfl 36 (by decide) (X.2.2.2.2 (.fieldLink RX9 113 "TestHallModel" "isSooner" "[Z") (by decide +kernel)) rfl rfl dX9_learner_116 ?_
                      refine lv_aload_n X.1 X.2.1 dX9_learner_119 rfl (lv_at hl 0 rfl) ?_
                      refine r_gf X inX9_learner_X9 hw 0 rfl rfl 30 (by decide) (X.2.2.2.2 (.fieldLink RX9 256 "TestHallModel" "learners" "I") (by decide +kernel)) rfl rfl dX9_learner_120 ?_
                      refine lv_iload X.1 X.2.1 dX9_learner_123 (lv_at hl 6 rfl) ?_
                      obtain ⟨hi_, h⟩ := h
                      refine r_zas (w' := mw κ η (sA M_6 36 (gI M_6 30).toNatClampNeg (vp_nar .boolean a6))) X hw 25 1 rfl rfl hi_ rfl dX9_learner_125 (fun H locs hw => ?_)
                      obtain ⟨M_7, eM_7⟩ : ∃ y : Sg, y = sA M_6 36 (gI M_6 30).toNatClampNeg (vp_nar .boolean a6) := ⟨_, rfl⟩
                      rw [← eM_7] at hw
                      have h := h M_7 eM_7
                      refine lv_aload_n X.1 X.2.1 dX9_learner_126 rfl (lv_at hl 0 rfl) ?_
                      refine r_gf X inX9_learner_X9 hw 0 rfl rfl 37 (by decide) (X.2.2.2.2 (.fieldLink RX9 116 "TestHallModel" "came" "[I") (by decide +kernel)) rfl rfl dX9_learner_127 ?_
                      refine lv_aload_n X.1 X.2.1 dX9_learner_130 rfl (lv_at hl 0 rfl) ?_
                      refine r_gf X inX9_learner_X9 hw 0 rfl rfl 30 (by decide) (X.2.2.2.2 (.fieldLink RX9 256 "TestHallModel" "learners" "I") (by decide +kernel)) rfl rfl dX9_learner_131 ?_
                      refine lv_aload_n X.1 X.2.1 dX9_learner_134 rfl (lv_at hl 0 rfl) ?_
                      refine r_gf X inX9_learner_X9 hw 0 rfl rfl 24 (by decide) (X.2.2.2.2 (.fieldLink RX9 259 "TestHallModel" "now" "I") (by decide +kernel)) rfl rfl dX9_learner_135 ?_
                      obtain ⟨hi_, h⟩ := h
                      refine r_ias (w' := mw κ η (sA M_7 37 (gI M_7 30).toNatClampNeg (gI M_7 24))) X hw 26 0 rfl rfl hi_ rfl dX9_learner_138 (fun H locs hw => ?_)
                      obtain ⟨M_8, eM_8⟩ : ∃ y : Sg, y = sA M_7 37 (gI M_7 30).toNatClampNeg (gI M_7 24) := ⟨_, rfl⟩
                      rw [← eM_8] at hw
                      have h := h M_8 eM_8
                      refine lv_aload_n X.1 X.2.1 dX9_learner_139 rfl (lv_at hl 0 rfl) ?_
                      refine r_gf X inX9_learner_X9 hw 0 rfl rfl 38 (by decide) (X.2.2.2.2 (.fieldLink RX9 119 "TestHallModel" "state" "[I") (by decide +kernel)) rfl rfl dX9_learner_140 ?_
                      refine lv_aload_n X.1 X.2.1 dX9_learner_143 rfl (lv_at hl 0 rfl) ?_
                      refine r_gf X inX9_learner_X9 hw 0 rfl rfl 30 (by decide) (X.2.2.2.2 (.fieldLink RX9 256 "TestHallModel" "learners" "I") (by decide +kernel)) rfl rfl dX9_learner_144 ?_
                      refine lv_iconst (v := (0 : Int32)) X.1 X.2.1 dX9_learner_147 (by decide) ?_
                      obtain ⟨hi_, h⟩ := h
                      refine r_ias (w' := mw κ η (sA M_8 38 (gI M_8 30).toNatClampNeg (0 : Int32))) X hw 27 0 rfl rfl hi_ rfl dX9_learner_148 (fun H locs hw => ?_)
                      obtain ⟨M_9, eM_9⟩ : ∃ y : Sg, y = sA M_8 38 (gI M_8 30).toNatClampNeg (0 : Int32) := ⟨_, rfl⟩
                      rw [← eM_9] at hw
                      have h := h M_9 eM_9
                      refine lv_aload_n X.1 X.2.1 dX9_learner_149 rfl (lv_at hl 0 rfl) ?_
                      refine r_gf X inX9_learner_X9 hw 0 rfl rfl 39 (by decide) (X.2.2.2.2 (.fieldLink RX9 122 "TestHallModel" "slot" "[I") (by decide +kernel)) rfl rfl dX9_learner_150 ?_
                      refine lv_aload_n X.1 X.2.1 dX9_learner_153 rfl (lv_at hl 0 rfl) ?_
                      refine r_gf X inX9_learner_X9 hw 0 rfl rfl 30 (by decide) (X.2.2.2.2 (.fieldLink RX9 256 "TestHallModel" "learners" "I") (by decide +kernel)) rfl rfl dX9_learner_154 ?_
                      refine lv_iconst (v := (-1 : Int32)) X.1 X.2.1 dX9_learner_157 (by decide) ?_
                      obtain ⟨hi_, h⟩ := h
                      refine r_ias (w' := mw κ η (sA M_9 39 (gI M_9 30).toNatClampNeg (-1 : Int32))) X hw 28 0 rfl rfl hi_ rfl dX9_learner_158 (fun H locs hw => ?_)
                      obtain ⟨M_10, eM_10⟩ : ∃ y : Sg, y = sA M_9 39 (gI M_9 30).toNatClampNeg (-1 : Int32) := ⟨_, rfl⟩
                      rw [← eM_10] at hw
                      have h := h M_10 eM_10
                      refine lv_aload_n X.1 X.2.1 dX9_learner_159 rfl (lv_at hl 0 rfl) ?_
                      refine lv_dup X.1 X.2.1 dX9_learner_160 rfl ?_
                      refine r_gf X inX9_learner_X9 hw 0 rfl rfl 30 (by decide) (X.2.2.2.2 (.fieldLink RX9 256 "TestHallModel" "learners" "I") (by decide +kernel)) rfl rfl dX9_learner_161 ?_
                      refine lv_iconst (v := (1 : Int32)) X.1 X.2.1 dX9_learner_164 (by decide) ?_
                      refine lv_iadd X.1 X.2.1 dX9_learner_165 ?_
                      refine r_pf (ty := .int) (w' := mw κ η (sI M_10 30 ((gI M_10 30) + (1 : Int32)))) X inX9_learner_X9 tyX9_ok nmX9 hw 0 rfl rfl 30 (by decide) (X.2.2.2.2 (.fieldLink RX9 256 "TestHallModel" "learners" "I") (by decide +kernel)) rfl rfl (by decide +kernel) rfl rfl (Nat.le_of_ble_eq_true rfl) rfl dX9_learner_166 (fun H locs hw => ?_)
                      obtain ⟨M_11, eM_11⟩ : ∃ y : Sg, y = sI M_10 30 ((gI M_10 30) + (1 : Int32)) := ⟨_, rfl⟩
                      rw [← eM_11] at hw
                      have h := h M_11 eM_11
                      refine lv_aload_n X.1 X.2.1 dX9_learner_169 rfl (lv_at hl 0 rfl) ?_
                      refine r_gf X inX9_learner_X9 hw 0 rfl rfl 30 (by decide) (X.2.2.2.2 (.fieldLink RX9 256 "TestHallModel" "learners" "I") (by decide +kernel)) rfl rfl dX9_learner_170 ?_
                      refine lv_iconst (v := (1 : Int32)) X.1 X.2.1 dX9_learner_173 (by decide) ?_
                      refine lv_isub X.1 X.2.1 dX9_learner_174 ?_
                      exact r_ret X hr hlk hw h dX9_learner_175
                    · have h := hf_ c_
                      refine lv_iconst (v := (-1 : Int32)) X.1 X.2.1 dX9_learner_61 (by decide) ?_
                      exact r_ret X hr hlk hw h dX9_learner_62

theorem inX9_isLearner_X9 : ∀ w ∈ wsX90, w ∈ wsX9_isLearner := fun w h => List.mem_cons_of_mem _ (List.mem_append_right _ h)
abbrev rmX9_isLearner : Room := { frames := 0, cells := 0, slots := 0, locals := 0 }
def wX9_isLearner (M : Sg) (a1 : Int32) (Q : Sg → Int32 → Prop) : Prop := ((a1 < 0 → (Q M (0 : Int32))) ∧ (¬ a1 < 0 → (((gI M 30) ≤ a1 → (Q M (0 : Int32))) ∧ (¬ (gI M 30) ≤ a1 → (Q M (1 : Int32))))))
set_option maxHeartbeats 4000000 in
set_option maxRecDepth 100000 in
theorem kX9_isLearner {l : Launch} {D : va_G} {κ : Nat → ClassId} {η : Nat → Nat} {σ : (Nat → Nat) × (Nat → Nat)} {M : Sg} {a1 : Int32} {Q : Sg → Int32 → Prop} (h : wX9_isLearner M a1 Q) : Ki (cN σ) D (Ky κ) (mw κ η) l yX9_isLearner wsX9_isLearner rmX9_isLearner [.ref (η 0), .int a1] M Q := by
  refine ofW_g (Qc := fun A => Qi D (Ky κ) (mw κ η) A Q) (cc := cX9_isLearner) (maxL := 2) (ret := (some .boolean)) (by decide) rfl (Nat.le_of_ble_eq_true rfl) ?_
  intro p e s m args below meth c A ls X hr hlk hw hl
  have hl : lv_has ls 2 [(0, .ref (η 0)), (1, .int a1)] := hl
  refine lv_iload_n X.1 X.2.1 dX9_isLearner_0 rfl (lv_at hl 1 rfl) ?_
  obtain ⟨ht_, hf_⟩ := h
  refine lv_if_lt (tgt := 16) X.1 X.2.1 dX9_isLearner_1 (by decide) (fun c_ => ?_) (fun c_ => ?_)
  · have h := ht_ c_
    refine lv_iconst (v := (0 : Int32)) X.1 X.2.1 dX9_isLearner_16 (by decide) ?_
    exact r_zret X hr hlk hw rfl h dX9_isLearner_17
  · have h := hf_ c_
    refine lv_iload_n X.1 X.2.1 dX9_isLearner_4 rfl (lv_at hl 1 rfl) ?_
    refine lv_aload_n X.1 X.2.1 dX9_isLearner_5 rfl (lv_at hl 0 rfl) ?_
    refine r_gf X inX9_isLearner_X9 hw 0 rfl rfl 30 (by decide) (X.2.2.2.2 (.fieldLink RX9 256 "TestHallModel" "learners" "I") (by decide +kernel)) rfl rfl dX9_isLearner_6 ?_
    obtain ⟨ht_, hf_⟩ := h
    refine lv_icmp_ge (tgt := 16) X.1 X.2.1 dX9_isLearner_9 (by decide) (fun c_ => ?_) (fun c_ => ?_)
    · have h := ht_ c_
      refine lv_iconst (v := (0 : Int32)) X.1 X.2.1 dX9_isLearner_16 (by decide) ?_
      exact r_zret X hr hlk hw rfl h dX9_isLearner_17
    · have h := hf_ c_
      refine lv_iconst (v := (1 : Int32)) X.1 X.2.1 dX9_isLearner_12 (by decide) ?_
      refine lv_goto (tgt := 17) X.1 X.2.1 dX9_isLearner_13 (by decide) ?_
      exact r_zret X hr hlk hw rfl h dX9_isLearner_17

theorem inX9_bookedAt_X9 : ∀ w ∈ wsX90, w ∈ wsX9_bookedAt := fun w h => List.mem_cons_of_mem _ (List.mem_append_right _ h)
abbrev rmX9_bookedAt : Room := { frames := 0, cells := 0, slots := 0, locals := 0 }
def vX9_bookedAt_37 (K4 : Sg → Int32 → Int32 → Int32 → Prop) (Q : Sg → Int32 → Prop) (M : Sg) (x1 : Int32) (x3 : Int32) (s0 : Int32) : Prop := (∀ (x_1 : Int32), x_1 = x3 + (1 : Int32) → (K4 M x1 s0 x_1))
set_option maxHeartbeats 4000000 in
set_option maxRecDepth 100000 in
theorem bX9_bookedAt_37 {p : Program} {l : Launch} {e : Env} {s : State} {m : MethodId} {args : Array Value} {below : List Frame} {meth : Method} {c : Code} {D : va_G} {κ : Nat → ClassId} {η : Nat → Nat} {σ : (Nat → Nat) × (Nat → Nat)} {A : Nat → Prop} {Q : Sg → Int32 → Prop} {K4 : Sg → Int32 → Int32 → Int32 → Prop} (X : CallFix p m c cX9_bookedAt 4 s args wsX9_bookedAt RX9) (hr : meth.sig.returnType = (some .int)) (hlk : meth.locks = false) (hK4 : ∀ (M : Sg) (x1 : Int32) (x2 : Int32) (x3 : Int32) (H : Heap) (locs : List Loc) (ls : Array Slot), K4 M x1 x2 x3 → Wd (cN σ) D (Ky κ) A s (mw κ η M) H locs → lv_has ls 4 [(0, .ref (η 0)), (1, .int x1), (2, .int x2), (3, .int x3)] → W p l e rmX9_bookedAt s m args below meth c H locs 0 0 (MQ below (Qi D (Ky κ) (mw κ η) A Q) args s 0 0 A) (F0 m 4 ls [])) : ∀ (M : Sg) (x1 : Int32) (x3 : Int32) (s0 : Int32) (H : Heap) (locs : List Loc) (ls : Array Slot), vX9_bookedAt_37 K4 Q M x1 x3 s0 → Wd (cN σ) D (Ky κ) A s (mw κ η M) H locs → lv_has ls 4 [(0, .ref (η 0)), (1, .int x1), (3, .int x3)] → W p l e rmX9_bookedAt s m args below meth c H locs 0 0 (MQ below (Qi D (Ky κ) (mw κ η) A Q) args s 0 0 A) (F0 m 37 ls [.int s0]) := by
  intro M x1 x3 s0 H locs ls h hw hl
  refine lv_istore_n (lv' := [(2, .int s0), (0, .ref (η 0)), (1, .int x1), (3, .int x3)]) X.1 X.2.1 dX9_bookedAt_37 rfl hl (by decide) rfl (fun ls hl => ?_)
  obtain ⟨x_1, ex_1⟩ : ∃ y : Int32, y = x3 + (1 : Int32) := ⟨_, rfl⟩
  have h := h x_1 ex_1
  refine lv_iinc (v := x_1) (lv' := [(3, .int x_1), (2, .int s0), (0, .ref (η 0)), (1, .int x1)]) X.1 X.2.1 dX9_bookedAt_38 hl (k := 3) rfl (by rw [ex_1]; rfl) (by decide) rfl (fun ls hl => ?_)
  refine lv_goto (tgt := 4) X.1 X.2.1 dX9_bookedAt_41 (by decide) ?_
  exact hK4 M x1 s0 x_1 _ _ _ h hw (lv_sub hl [2, 3, 1, 0] rfl)
def vX9_bookedAt_36 (K4 : Sg → Int32 → Int32 → Int32 → Prop) (Q : Sg → Int32 → Prop) (M : Sg) (x1 : Int32) (x2 : Int32) (x3 : Int32) : Prop := (vX9_bookedAt_37 K4 Q M x1 x3 x2)
set_option maxHeartbeats 4000000 in
set_option maxRecDepth 100000 in
theorem bX9_bookedAt_36 {p : Program} {l : Launch} {e : Env} {s : State} {m : MethodId} {args : Array Value} {below : List Frame} {meth : Method} {c : Code} {D : va_G} {κ : Nat → ClassId} {η : Nat → Nat} {σ : (Nat → Nat) × (Nat → Nat)} {A : Nat → Prop} {Q : Sg → Int32 → Prop} {K4 : Sg → Int32 → Int32 → Int32 → Prop} (X : CallFix p m c cX9_bookedAt 4 s args wsX9_bookedAt RX9) (hr : meth.sig.returnType = (some .int)) (hlk : meth.locks = false) (hK4 : ∀ (M : Sg) (x1 : Int32) (x2 : Int32) (x3 : Int32) (H : Heap) (locs : List Loc) (ls : Array Slot), K4 M x1 x2 x3 → Wd (cN σ) D (Ky κ) A s (mw κ η M) H locs → lv_has ls 4 [(0, .ref (η 0)), (1, .int x1), (2, .int x2), (3, .int x3)] → W p l e rmX9_bookedAt s m args below meth c H locs 0 0 (MQ below (Qi D (Ky κ) (mw κ η) A Q) args s 0 0 A) (F0 m 4 ls [])) : ∀ (M : Sg) (x1 : Int32) (x2 : Int32) (x3 : Int32) (H : Heap) (locs : List Loc) (ls : Array Slot), vX9_bookedAt_36 K4 Q M x1 x2 x3 → Wd (cN σ) D (Ky κ) A s (mw κ η M) H locs → lv_has ls 4 [(0, .ref (η 0)), (1, .int x1), (2, .int x2), (3, .int x3)] → W p l e rmX9_bookedAt s m args below meth c H locs 0 0 (MQ below (Qi D (Ky κ) (mw κ η) A Q) args s 0 0 A) (F0 m 36 ls []) := by
  intro M x1 x2 x3 H locs ls h hw hl
  refine lv_iload_n X.1 X.2.1 dX9_bookedAt_36 rfl (lv_at hl 2 rfl) ?_
  exact bX9_bookedAt_37 X hr hlk hK4 M x1 x3 x2 _ _ _ h hw (lv_sub hl [0, 1, 3] rfl)
def vX9_bookedAt_4 (Q : Sg → Int32 → Prop) : Nat → Sg → Int32 → Int32 → Int32 → Prop
  | 0, _, _, _, _ => False
  | f4_ + 1, M, x1, x2, x3 => (((gI M 30) ≤ x3 → (Q M x2)) ∧ (¬ (gI M 30) ≤ x3 → (vp_in x3 60 ∧ ((¬ (gA M 38 x3.toNatClampNeg) = (1 : Int32) → (vX9_bookedAt_36 (vX9_bookedAt_4 Q f4_) Q M x1 x2 x3)) ∧ ((gA M 38 x3.toNatClampNeg) = (1 : Int32) → (vp_in x3 60 ∧ ((¬ (gA M 39 x3.toNatClampNeg) = x1 → (vX9_bookedAt_36 (vX9_bookedAt_4 Q f4_) Q M x1 x2 x3)) ∧ ((gA M 39 x3.toNatClampNeg) = x1 → (vX9_bookedAt_37 (vX9_bookedAt_4 Q f4_) Q M x1 x3 x3)))))))))
set_option maxHeartbeats 4000000 in
set_option maxRecDepth 100000 in
theorem bX9_bookedAt_4 {p : Program} {l : Launch} {e : Env} {s : State} {m : MethodId} {args : Array Value} {below : List Frame} {meth : Method} {c : Code} {D : va_G} {κ : Nat → ClassId} {η : Nat → Nat} {σ : (Nat → Nat) × (Nat → Nat)} {A : Nat → Prop} {Q : Sg → Int32 → Prop} (X : CallFix p m c cX9_bookedAt 4 s args wsX9_bookedAt RX9) (hr : meth.sig.returnType = (some .int)) (hlk : meth.locks = false) : ∀ (f_ : Nat) (M : Sg) (x1 : Int32) (x2 : Int32) (x3 : Int32) (H : Heap) (locs : List Loc) (ls : Array Slot), vX9_bookedAt_4 Q f_ M x1 x2 x3 → Wd (cN σ) D (Ky κ) A s (mw κ η M) H locs → lv_has ls 4 [(0, .ref (η 0)), (1, .int x1), (2, .int x2), (3, .int x3)] → W p l e rmX9_bookedAt s m args below meth c H locs 0 0 (MQ below (Qi D (Ky κ) (mw κ η) A Q) args s 0 0 A) (F0 m 4 ls []) := by
  intro f_
  induction f_ with
  | zero => intro M x1 x2 x3 H locs ls h; exact h.elim
  | succ f_ hK4 =>
    intro M x1 x2 x3 H locs ls h hw hl
    refine lv_iload_n X.1 X.2.1 dX9_bookedAt_4 rfl (lv_at hl 3 rfl) ?_
    refine lv_aload_n X.1 X.2.1 dX9_bookedAt_5 rfl (lv_at hl 0 rfl) ?_
    refine r_gf X inX9_bookedAt_X9 hw 0 rfl rfl 30 (by decide) (X.2.2.2.2 (.fieldLink RX9 256 "TestHallModel" "learners" "I") (by decide +kernel)) rfl rfl dX9_bookedAt_6 ?_
    obtain ⟨ht_, hf_⟩ := h
    refine lv_icmp_ge (tgt := 44) X.1 X.2.1 dX9_bookedAt_9 (by decide) (fun c_ => ?_) (fun c_ => ?_)
    · have h := ht_ c_
      refine lv_iload_n X.1 X.2.1 dX9_bookedAt_44 rfl (lv_at hl 2 rfl) ?_
      exact r_ret X hr hlk hw h dX9_bookedAt_45
    · have h := hf_ c_
      refine lv_aload_n X.1 X.2.1 dX9_bookedAt_12 rfl (lv_at hl 0 rfl) ?_
      refine r_gf X inX9_bookedAt_X9 hw 0 rfl rfl 38 (by decide) (X.2.2.2.2 (.fieldLink RX9 119 "TestHallModel" "state" "[I") (by decide +kernel)) rfl rfl dX9_bookedAt_13 ?_
      refine lv_iload_n X.1 X.2.1 dX9_bookedAt_16 rfl (lv_at hl 3 rfl) ?_
      obtain ⟨hi_, h⟩ := h
      refine r_ial X hw 27 0 rfl rfl hi_ dX9_bookedAt_17 ?_
      refine lv_iconst (v := (1 : Int32)) X.1 X.2.1 dX9_bookedAt_18 (by decide) ?_
      obtain ⟨ht_, hf_⟩ := h
      refine lv_icmp_ne (tgt := 36) X.1 X.2.1 dX9_bookedAt_19 (by decide) (fun c_ => ?_) (fun c_ => ?_)
      · have h := ht_ c_
        exact bX9_bookedAt_36 X hr hlk hK4 M x1 x2 x3 _ _ _ h hw (lv_sub hl [0, 1, 2, 3] rfl)
      · have h := hf_ c_
        refine lv_aload_n X.1 X.2.1 dX9_bookedAt_22 rfl (lv_at hl 0 rfl) ?_
        refine r_gf X inX9_bookedAt_X9 hw 0 rfl rfl 39 (by decide) (X.2.2.2.2 (.fieldLink RX9 122 "TestHallModel" "slot" "[I") (by decide +kernel)) rfl rfl dX9_bookedAt_23 ?_
        refine lv_iload_n X.1 X.2.1 dX9_bookedAt_26 rfl (lv_at hl 3 rfl) ?_
        obtain ⟨hi_, h⟩ := h
        refine r_ial X hw 28 0 rfl rfl hi_ dX9_bookedAt_27 ?_
        refine lv_iload_n X.1 X.2.1 dX9_bookedAt_28 rfl (lv_at hl 1 rfl) ?_
        obtain ⟨ht_, hf_⟩ := h
        refine lv_icmp_ne (tgt := 36) X.1 X.2.1 dX9_bookedAt_29 (by decide) (fun c_ => ?_) (fun c_ => ?_)
        · have h := ht_ c_
          exact bX9_bookedAt_36 X hr hlk hK4 M x1 x2 x3 _ _ _ h hw (lv_sub hl [0, 1, 2, 3] rfl)
        · have h := hf_ c_
          refine lv_iload_n X.1 X.2.1 dX9_bookedAt_32 rfl (lv_at hl 3 rfl) ?_
          refine lv_goto (tgt := 37) X.1 X.2.1 dX9_bookedAt_33 (by decide) ?_
          exact bX9_bookedAt_37 X hr hlk hK4 M x1 x3 x3 _ _ _ h hw (lv_sub hl [0, 1, 3] rfl)
def wX9_bookedAt (M : Sg) (a1 : Int32) (Q : Sg → Int32 → Prop) : Prop := (∃ g4_ : Nat, vX9_bookedAt_4 Q g4_ M a1 (-1 : Int32) (0 : Int32))
set_option maxHeartbeats 4000000 in
set_option maxRecDepth 100000 in
theorem kX9_bookedAt {l : Launch} {D : va_G} {κ : Nat → ClassId} {η : Nat → Nat} {σ : (Nat → Nat) × (Nat → Nat)} {M : Sg} {a1 : Int32} {Q : Sg → Int32 → Prop} (h : wX9_bookedAt M a1 Q) : Ki (cN σ) D (Ky κ) (mw κ η) l yX9_bookedAt wsX9_bookedAt rmX9_bookedAt [.ref (η 0), .int a1] M Q := by
  refine ofW_g (Qc := fun A => Qi D (Ky κ) (mw κ η) A Q) (cc := cX9_bookedAt) (maxL := 4) (ret := (some .int)) (by decide) rfl (Nat.le_of_ble_eq_true rfl) ?_
  intro p e s m args below meth c A ls X hr hlk hw hl
  have hl : lv_has ls 4 [(0, .ref (η 0)), (1, .int a1)] := hl
  refine lv_iconst (v := (-1 : Int32)) X.1 X.2.1 dX9_bookedAt_0 (by decide) ?_
  refine lv_istore_n (lv' := [(2, .int (-1 : Int32)), (0, .ref (η 0)), (1, .int a1)]) X.1 X.2.1 dX9_bookedAt_1 rfl hl (by decide) rfl (fun ls hl => ?_)
  refine lv_iconst (v := (0 : Int32)) X.1 X.2.1 dX9_bookedAt_2 (by decide) ?_
  refine lv_istore_n (lv' := [(3, .int (0 : Int32)), (2, .int (-1 : Int32)), (0, .ref (η 0)), (1, .int a1)]) X.1 X.2.1 dX9_bookedAt_3 rfl hl (by decide) rfl (fun ls hl => ?_)
  obtain ⟨f_, h⟩ := h
  exact bX9_bookedAt_4 X hr hlk f_ M a1 (-1 : Int32) (0 : Int32) _ _ _ h hw (lv_sub hl [2, 3, 1, 0] rfl)

theorem inX9_isFree_X9 : ∀ w ∈ wsX90, w ∈ wsX9_isFree := fun w h => List.mem_cons_of_mem _ (List.mem_append_right _ h)
abbrev rmX9_isFree : Room := { frames := 2, cells := 0, slots := 0, locals := 46 }
def wX9_isFree (M : Sg) (a1 : Int32) (Q : Sg → Int32 → Prop) : Prop := (((a1 / (48 : Int32)) ≤ (gI M 24) → (Q M (0 : Int32))) ∧ (¬ (a1 / (48 : Int32)) ≤ (gI M 24) → (vp_in (a1 / (48 : Int32)) 60 ∧ ((¬ (gA M 27 (a1 / (48 : Int32)).toNatClampNeg) = 0 → (Q M (0 : Int32))) ∧ ((gA M 27 (a1 / (48 : Int32)).toNatClampNeg) = 0 → (((gI M 25) ≤ (a1 - a1 / (8 : Int32) * (8 : Int32)) → (Q M (0 : Int32))) ∧ (¬ (gI M 25) ≤ (a1 - a1 / (8 : Int32) * (8 : Int32)) → (wX9_isThere M a1 (fun M_1 r_2 => ((r_2 = 0 → (Q M_1 (0 : Int32))) ∧ (¬ r_2 = 0 → (wX9_bookedAt M_1 a1 (fun M_3 r_4 => ((0 ≤ r_4 → (Q M_3 (0 : Int32))) ∧ (¬ 0 ≤ r_4 → (Q M_3 (1 : Int32)))))))))))))))))
set_option maxHeartbeats 4000000 in
set_option maxRecDepth 100000 in
theorem kX9_isFree {l : Launch} {D : va_G} {κ : Nat → ClassId} {η : Nat → Nat} {σ : (Nat → Nat) × (Nat → Nat)} {M : Sg} {a1 : Int32} {Q : Sg → Int32 → Prop} (h : wX9_isFree M a1 Q) : Ki (cN σ) D (Ky κ) (mw κ η) l yX9_isFree wsX9_isFree rmX9_isFree [.ref (η 0), .int a1] M Q := by
  refine ofW_g (Qc := fun A => Qi D (Ky κ) (mw κ η) A Q) (cc := cX9_isFree) (maxL := 2) (ret := (some .boolean)) (by decide) rfl (Nat.le_of_ble_eq_true rfl) ?_
  intro p e s m args below meth c A ls X hr hlk hw hl
  have hl : lv_has ls 2 [(0, .ref (η 0)), (1, .int a1)] := hl
  refine lv_iload_n X.1 X.2.1 dX9_isFree_0 rfl (lv_at hl 1 rfl) ?_
  refine lv_bipush (v := (48 : Int32)) X.1 X.2.1 dX9_isFree_1 (by decide) ?_
  refine lv_idiv X.1 X.2.1 dX9_isFree_3 (by decide) ?_
  refine lv_aload_n X.1 X.2.1 dX9_isFree_4 rfl (lv_at hl 0 rfl) ?_
  refine r_gf X inX9_isFree_X9 hw 0 rfl rfl 24 (by decide) (X.2.2.2.2 (.fieldLink RX9 259 "TestHallModel" "now" "I") (by decide +kernel)) rfl rfl dX9_isFree_5 ?_
  obtain ⟨ht_, hf_⟩ := h
  refine lv_icmp_le (tgt := 54) X.1 X.2.1 dX9_isFree_8 (by decide) (fun c_ => ?_) (fun c_ => ?_)
  · have h := ht_ c_
    refine lv_iconst (v := (0 : Int32)) X.1 X.2.1 dX9_isFree_54 (by decide) ?_
    exact r_zret X hr hlk hw rfl h dX9_isFree_55
  · have h := hf_ c_
    refine lv_aload_n X.1 X.2.1 dX9_isFree_11 rfl (lv_at hl 0 rfl) ?_
    refine r_gf X inX9_isFree_X9 hw 0 rfl rfl 27 (by decide) (X.2.2.2.2 (.fieldLink RX9 88 "TestHallModel" "isShut" "[Z") (by decide +kernel)) rfl rfl dX9_isFree_12 ?_
    refine lv_iload_n X.1 X.2.1 dX9_isFree_15 rfl (lv_at hl 1 rfl) ?_
    refine lv_bipush (v := (48 : Int32)) X.1 X.2.1 dX9_isFree_16 (by decide) ?_
    refine lv_idiv X.1 X.2.1 dX9_isFree_18 (by decide) ?_
    obtain ⟨hi_, h⟩ := h
    refine r_zal X hw 17 1 rfl rfl hi_ dX9_isFree_19 ?_
    obtain ⟨ht_, hf_⟩ := h
    refine lv_if_ne (tgt := 54) X.1 X.2.1 dX9_isFree_20 (by decide) (fun c_ => ?_) (fun c_ => ?_)
    · have h := ht_ c_
      refine lv_iconst (v := (0 : Int32)) X.1 X.2.1 dX9_isFree_54 (by decide) ?_
      exact r_zret X hr hlk hw rfl h dX9_isFree_55
    · have h := hf_ c_
      refine lv_iload_n X.1 X.2.1 dX9_isFree_23 rfl (lv_at hl 1 rfl) ?_
      refine lv_bipush (v := (8 : Int32)) X.1 X.2.1 dX9_isFree_24 (by decide) ?_
      refine lv_irem X.1 X.2.1 dX9_isFree_26 (by decide) ?_
      refine lv_aload_n X.1 X.2.1 dX9_isFree_27 rfl (lv_at hl 0 rfl) ?_
      refine r_gf X inX9_isFree_X9 hw 0 rfl rfl 25 (by decide) (X.2.2.2.2 (.fieldLink RX9 249 "TestHallModel" "examiners" "I") (by decide +kernel)) rfl rfl dX9_isFree_28 ?_
      obtain ⟨ht_, hf_⟩ := h
      refine lv_icmp_ge (tgt := 54) X.1 X.2.1 dX9_isFree_31 (by decide) (fun c_ => ?_) (fun c_ => ?_)
      · have h := ht_ c_
        refine lv_iconst (v := (0 : Int32)) X.1 X.2.1 dX9_isFree_54 (by decide) ?_
        exact r_zret X hr hlk hw rfl h dX9_isFree_55
      · have h := hf_ c_
        refine lv_aload_n X.1 X.2.1 dX9_isFree_34 rfl (lv_at hl 0 rfl) ?_
        refine lv_iload_n X.1 X.2.1 dX9_isFree_35 rfl (lv_at hl 1 rfl) ?_
        refine r_Vi (As := [.int a1]) (rest := []) X cN_ok (kX9_isThere h) (cwV 1 X.2.2.2.2 gX9_isFree_X9_isThere rfl rfl rfl (by decide +kernel) ⟨Nat.le_of_ble_eq_true rfl, Nat.le_of_ble_eq_true rfl⟩) hw 0 8 rfl rfl rfl hl.1 rfl (Nat.le_of_ble_eq_true rfl) dX9_isFree_36 (fun r_2 M_1 H locs h hw => ?_)
        obtain ⟨ht_, hf_⟩ := h
        refine lv_if_eq (tgt := 54) X.1 X.2.1 dX9_isFree_39 (by decide) (fun c_ => ?_) (fun c_ => ?_)
        · have h := ht_ c_
          refine lv_iconst (v := (0 : Int32)) X.1 X.2.1 dX9_isFree_54 (by decide) ?_
          exact r_zret X hr hlk hw rfl h dX9_isFree_55
        · have h := hf_ c_
          refine lv_aload_n X.1 X.2.1 dX9_isFree_42 rfl (lv_at hl 0 rfl) ?_
          refine lv_iload_n X.1 X.2.1 dX9_isFree_43 rfl (lv_at hl 1 rfl) ?_
          refine r_Vi (As := [.int a1]) (rest := []) X cN_ok (kX9_bookedAt h) (cwV 1 X.2.2.2.2 gX9_isFree_X9_bookedAt rfl rfl rfl (by decide +kernel) ⟨Nat.le_of_ble_eq_true rfl, Nat.le_of_ble_eq_true rfl⟩) hw 0 8 rfl rfl rfl hl.1 rfl (Nat.le_of_ble_eq_true rfl) dX9_isFree_44 (fun r_4 M_3 H locs h hw => ?_)
          obtain ⟨ht_, hf_⟩ := h
          refine lv_if_ge (tgt := 54) X.1 X.2.1 dX9_isFree_47 (by decide) (fun c_ => ?_) (fun c_ => ?_)
          · have h := ht_ c_
            refine lv_iconst (v := (0 : Int32)) X.1 X.2.1 dX9_isFree_54 (by decide) ?_
            exact r_zret X hr hlk hw rfl h dX9_isFree_55
          · have h := hf_ c_
            refine lv_iconst (v := (1 : Int32)) X.1 X.2.1 dX9_isFree_50 (by decide) ?_
            refine lv_goto (tgt := 55) X.1 X.2.1 dX9_isFree_51 (by decide) ?_
            exact r_zret X hr hlk hw rfl h dX9_isFree_55

theorem inX9_suits_X9 : ∀ w ∈ wsX90, w ∈ wsX9_suits := fun w h => List.mem_cons_of_mem _ (List.mem_append_right _ h)
abbrev rmX9_suits : Room := { frames := 0, cells := 0, slots := 0, locals := 0 }
def wX9_suits (M : Sg) (a1 : Int32) (a2 : Int32) (Q : Sg → Int32 → Prop) : Prop := (∀ (x_1 : Int32), x_1 = (a1 / (48 : Int32)) → (vp_in (((60 : Int32) * (a1 - a1 / (8 : Int32) * (8 : Int32))) + x_1) 480 ∧ (vp_in a2 60 ∧ ((¬ (gA M 26 (((60 : Int32) * (a1 - a1 / (8 : Int32) * (8 : Int32))) + x_1).toNatClampNeg) = (gA M 31 a2.toNatClampNeg) → (Q M (0 : Int32))) ∧ ((gA M 26 (((60 : Int32) * (a1 - a1 / (8 : Int32) * (8 : Int32))) + x_1).toNatClampNeg) = (gA M 31 a2.toNatClampNeg) → (vp_in a2 60 ∧ ((x_1 < (gA M 35 a2.toNatClampNeg) → (Q M (0 : Int32))) ∧ (¬ x_1 < (gA M 35 a2.toNatClampNeg) → (vp_in a2 60 ∧ ((x_1 < (gA M 33 a2.toNatClampNeg) → (Q M (0 : Int32))) ∧ (¬ x_1 < (gA M 33 a2.toNatClampNeg) → (vp_in a2 60 ∧ (((gA M 34 a2.toNatClampNeg) < x_1 → (Q M (0 : Int32))) ∧ (¬ (gA M 34 a2.toNatClampNeg) < x_1 → (Q M (1 : Int32))))))))))))))))
set_option maxHeartbeats 4000000 in
set_option maxRecDepth 100000 in
theorem kX9_suits {l : Launch} {D : va_G} {κ : Nat → ClassId} {η : Nat → Nat} {σ : (Nat → Nat) × (Nat → Nat)} {M : Sg} {a1 : Int32} {a2 : Int32} {Q : Sg → Int32 → Prop} (h : wX9_suits M a1 a2 Q) : Ki (cN σ) D (Ky κ) (mw κ η) l yX9_suits wsX9_suits rmX9_suits [.ref (η 0), .int a1, .int a2] M Q := by
  refine ofW_g (Qc := fun A => Qi D (Ky κ) (mw κ η) A Q) (cc := cX9_suits) (maxL := 4) (ret := (some .boolean)) (by decide) rfl (Nat.le_of_ble_eq_true rfl) ?_
  intro p e s m args below meth c A ls X hr hlk hw hl
  have hl : lv_has ls 4 [(0, .ref (η 0)), (1, .int a1), (2, .int a2)] := hl
  refine lv_iload_n X.1 X.2.1 dX9_suits_0 rfl (lv_at hl 1 rfl) ?_
  refine lv_bipush (v := (48 : Int32)) X.1 X.2.1 dX9_suits_1 (by decide) ?_
  refine lv_idiv X.1 X.2.1 dX9_suits_3 (by decide) ?_
  refine lv_topi (fun x_1 ex_1 => ?_)
  have h := h x_1 ex_1
  refine lv_istore_n (lv' := [(3, .int x_1), (0, .ref (η 0)), (1, .int a1), (2, .int a2)]) X.1 X.2.1 dX9_suits_4 rfl hl (by decide) rfl (fun ls hl => ?_)
  refine lv_aload_n X.1 X.2.1 dX9_suits_5 rfl (lv_at hl 1 rfl) ?_
  refine r_gf X inX9_suits_X9 hw 0 rfl rfl 26 (by decide) (X.2.2.2.2 (.fieldLink RX9 85 "TestHallModel" "town" "[I") (by decide +kernel)) rfl rfl dX9_suits_6 ?_
  refine lv_bipush (v := (60 : Int32)) X.1 X.2.1 dX9_suits_9 (by decide) ?_
  refine lv_iload_n X.1 X.2.1 dX9_suits_11 rfl (lv_at hl 2 rfl) ?_
  refine lv_bipush (v := (8 : Int32)) X.1 X.2.1 dX9_suits_12 (by decide) ?_
  refine lv_irem X.1 X.2.1 dX9_suits_14 (by decide) ?_
  refine lv_imul X.1 X.2.1 dX9_suits_15 ?_
  refine lv_iload_n X.1 X.2.1 dX9_suits_16 rfl (lv_at hl 0 rfl) ?_
  refine lv_iadd X.1 X.2.1 dX9_suits_17 ?_
  obtain ⟨hi_, h⟩ := h
  refine r_ial X hw 16 0 rfl rfl hi_ dX9_suits_18 ?_
  refine lv_aload_n X.1 X.2.1 dX9_suits_19 rfl (lv_at hl 1 rfl) ?_
  refine r_gf X inX9_suits_X9 hw 0 rfl rfl 31 (by decide) (X.2.2.2.2 (.fieldLink RX9 98 "TestHallModel" "home" "[I") (by decide +kernel)) rfl rfl dX9_suits_20 ?_
  refine lv_iload_n X.1 X.2.1 dX9_suits_23 rfl (lv_at hl 3 rfl) ?_
  obtain ⟨hi_, h⟩ := h
  refine r_ial X hw 20 0 rfl rfl hi_ dX9_suits_24 ?_
  obtain ⟨ht_, hf_⟩ := h
  refine lv_icmp_ne (tgt := 62) X.1 X.2.1 dX9_suits_25 (by decide) (fun c_ => ?_) (fun c_ => ?_)
  · have h := ht_ c_
    refine lv_iconst (v := (0 : Int32)) X.1 X.2.1 dX9_suits_62 (by decide) ?_
    exact r_zret X hr hlk hw rfl h dX9_suits_63
  · have h := hf_ c_
    refine lv_iload_n X.1 X.2.1 dX9_suits_28 rfl (lv_at hl 0 rfl) ?_
    refine lv_aload_n X.1 X.2.1 dX9_suits_29 rfl (lv_at hl 1 rfl) ?_
    refine r_gf X inX9_suits_X9 hw 0 rfl rfl 35 (by decide) (X.2.2.2.2 (.fieldLink RX9 110 "TestHallModel" "wish" "[I") (by decide +kernel)) rfl rfl dX9_suits_30 ?_
    refine lv_iload_n X.1 X.2.1 dX9_suits_33 rfl (lv_at hl 3 rfl) ?_
    obtain ⟨hi_, h⟩ := h
    refine r_ial X hw 24 0 rfl rfl hi_ dX9_suits_34 ?_
    obtain ⟨ht_, hf_⟩ := h
    refine lv_icmp_lt (tgt := 62) X.1 X.2.1 dX9_suits_35 (by decide) (fun c_ => ?_) (fun c_ => ?_)
    · have h := ht_ c_
      refine lv_iconst (v := (0 : Int32)) X.1 X.2.1 dX9_suits_62 (by decide) ?_
      exact r_zret X hr hlk hw rfl h dX9_suits_63
    · have h := hf_ c_
      refine lv_iload_n X.1 X.2.1 dX9_suits_38 rfl (lv_at hl 0 rfl) ?_
      refine lv_aload_n X.1 X.2.1 dX9_suits_39 rfl (lv_at hl 1 rfl) ?_
      refine r_gf X inX9_suits_X9 hw 0 rfl rfl 33 (by decide) (X.2.2.2.2 (.fieldLink RX9 104 "TestHallModel" "from" "[I") (by decide +kernel)) rfl rfl dX9_suits_40 ?_
      refine lv_iload_n X.1 X.2.1 dX9_suits_43 rfl (lv_at hl 3 rfl) ?_
      obtain ⟨hi_, h⟩ := h
      refine r_ial X hw 22 0 rfl rfl hi_ dX9_suits_44 ?_
      obtain ⟨ht_, hf_⟩ := h
      refine lv_icmp_lt (tgt := 62) X.1 X.2.1 dX9_suits_45 (by decide) (fun c_ => ?_) (fun c_ => ?_)
      · have h := ht_ c_
        refine lv_iconst (v := (0 : Int32)) X.1 X.2.1 dX9_suits_62 (by decide) ?_
        exact r_zret X hr hlk hw rfl h dX9_suits_63
      · have h := hf_ c_
        refine lv_iload_n X.1 X.2.1 dX9_suits_48 rfl (lv_at hl 0 rfl) ?_
        refine lv_aload_n X.1 X.2.1 dX9_suits_49 rfl (lv_at hl 1 rfl) ?_
        refine r_gf X inX9_suits_X9 hw 0 rfl rfl 34 (by decide) (X.2.2.2.2 (.fieldLink RX9 107 "TestHallModel" "to" "[I") (by decide +kernel)) rfl rfl dX9_suits_50 ?_
        refine lv_iload_n X.1 X.2.1 dX9_suits_53 rfl (lv_at hl 3 rfl) ?_
        obtain ⟨hi_, h⟩ := h
        refine r_ial X hw 23 0 rfl rfl hi_ dX9_suits_54 ?_
        obtain ⟨ht_, hf_⟩ := h
        refine lv_icmp_gt (tgt := 62) X.1 X.2.1 dX9_suits_55 (by decide) (fun c_ => ?_) (fun c_ => ?_)
        · have h := ht_ c_
          refine lv_iconst (v := (0 : Int32)) X.1 X.2.1 dX9_suits_62 (by decide) ?_
          exact r_zret X hr hlk hw rfl h dX9_suits_63
        · have h := hf_ c_
          refine lv_iconst (v := (1 : Int32)) X.1 X.2.1 dX9_suits_58 (by decide) ?_
          refine lv_goto (tgt := 63) X.1 X.2.1 dX9_suits_59 (by decide) ?_
          exact r_zret X hr hlk hw rfl h dX9_suits_63

theorem inX9_rankOf_X9 : ∀ w ∈ wsX90, w ∈ wsX9_rankOf := fun w h => List.mem_cons_of_mem _ (List.mem_append_right _ h)
abbrev rmX9_rankOf : Room := { frames := 1, cells := 0, slots := 0, locals := 26 }
def vX9_rankOf_88 (Q : Sg → Int32 → Prop) : Nat → Sg → Int32 → Prop
  | 0, _, _ => False
  | f88_ + 1, M, x2 => (vp_in (gI M 15) 2 ∧ (((((16 : Int32) * (gI M 15)) + (gA M 10 (gI M 15).toNatClampNeg)) ≤ x2 → (Q M (0 : Int32))) ∧ (¬ (((16 : Int32) * (gI M 15)) + (gA M 10 (gI M 15).toNatClampNeg)) ≤ x2 → (vp_in x2 32 ∧ (wX9_worth M (gA M 12 x2.toNatClampNeg) (fun M_1 r_2 => ((r_2 = 0 → (∀ (x_3 : Int32), x_3 = x2 + (1 : Int32) → (vX9_rankOf_88 Q f88_ M_1 x_3))) ∧ (¬ r_2 = 0 → (vp_in x2 32 ∧ (Q M_1 (gA M_1 11 x2.toNatClampNeg)))))))))))
set_option maxHeartbeats 4000000 in
set_option maxRecDepth 100000 in
theorem bX9_rankOf_88 {p : Program} {l : Launch} {e : Env} {s : State} {m : MethodId} {args : Array Value} {below : List Frame} {meth : Method} {c : Code} {D : va_G} {κ : Nat → ClassId} {η : Nat → Nat} {σ : (Nat → Nat) × (Nat → Nat)} {A : Nat → Prop} {Q : Sg → Int32 → Prop} (X : CallFix p m c cX9_rankOf 3 s args wsX9_rankOf RX9) (hr : meth.sig.returnType = (some .int)) (hlk : meth.locks = false) : ∀ (f_ : Nat) (M : Sg) (x2 : Int32) (H : Heap) (locs : List Loc) (ls : Array Slot), vX9_rankOf_88 Q f_ M x2 → Wd (cN σ) D (Ky κ) A s (mw κ η M) H locs → lv_has ls 3 [(0, .ref (η 0)), (2, .int x2)] → W p l e rmX9_rankOf s m args below meth c H locs 0 0 (MQ below (Qi D (Ky κ) (mw κ η) A Q) args s 0 0 A) (F0 m 88 ls []) := by
  intro f_
  induction f_ with
  | zero => intro M x2 H locs ls h; exact h.elim
  | succ f_ hK88 =>
    intro M x2 H locs ls h hw hl
    refine lv_iload_n X.1 X.2.1 dX9_rankOf_88 rfl (lv_at hl 1 rfl) ?_
    refine lv_bipush (v := (16 : Int32)) X.1 X.2.1 dX9_rankOf_89 (by decide) ?_
    refine lv_aload_n X.1 X.2.1 dX9_rankOf_91 rfl (lv_at hl 0 rfl) ?_
    refine r_gf X inX9_rankOf_X9 hw 0 rfl rfl 15 (by decide) (X.2.2.2.2 (.fieldLink RX9 211 "TestHallModel" "holds" "I") (by decide +kernel)) rfl rfl dX9_rankOf_92 ?_
    refine lv_imul X.1 X.2.1 dX9_rankOf_95 ?_
    refine lv_aload_n X.1 X.2.1 dX9_rankOf_96 rfl (lv_at hl 0 rfl) ?_
    refine r_gf X inX9_rankOf_X9 hw 0 rfl rfl 10 (by decide) (X.2.2.2.2 (.fieldLink RX9 55 "TestHallModel" "lines" "[I") (by decide +kernel)) rfl rfl dX9_rankOf_97 ?_
    refine lv_aload_n X.1 X.2.1 dX9_rankOf_100 rfl (lv_at hl 0 rfl) ?_
    refine r_gf X inX9_rankOf_X9 hw 0 rfl rfl 15 (by decide) (X.2.2.2.2 (.fieldLink RX9 211 "TestHallModel" "holds" "I") (by decide +kernel)) rfl rfl dX9_rankOf_101 ?_
    obtain ⟨hi_, h⟩ := h
    refine r_ial X hw 6 0 rfl rfl hi_ dX9_rankOf_104 ?_
    refine lv_iadd X.1 X.2.1 dX9_rankOf_105 ?_
    obtain ⟨ht_, hf_⟩ := h
    refine lv_icmp_ge (tgt := 135) X.1 X.2.1 dX9_rankOf_106 (by decide) (fun c_ => ?_) (fun c_ => ?_)
    · have h := ht_ c_
      refine lv_iconst (v := (0 : Int32)) X.1 X.2.1 dX9_rankOf_135 (by decide) ?_
      exact r_ret X hr hlk hw h dX9_rankOf_136
    · have h := hf_ c_
      refine lv_aload_n X.1 X.2.1 dX9_rankOf_109 rfl (lv_at hl 0 rfl) ?_
      refine lv_aload_n X.1 X.2.1 dX9_rankOf_110 rfl (lv_at hl 0 rfl) ?_
      refine r_gf X inX9_rankOf_X9 hw 0 rfl rfl 12 (by decide) (X.2.2.2.2 (.fieldLink RX9 61 "TestHallModel" "lineAt" "[I") (by decide +kernel)) rfl rfl dX9_rankOf_111 ?_
      refine lv_iload_n X.1 X.2.1 dX9_rankOf_114 rfl (lv_at hl 1 rfl) ?_
      obtain ⟨hi_, h⟩ := h
      refine r_ial X hw 8 0 rfl rfl hi_ dX9_rankOf_115 ?_
      refine r_Vi (As := [.int (gA M 12 x2.toNatClampNeg)]) (rest := []) X cN_ok (kX9_worth h) (cwV 1 X.2.2.2.2 gX9_rankOf_X9_worth rfl rfl rfl (by decide +kernel) ⟨Nat.le_of_ble_eq_true rfl, Nat.le_of_ble_eq_true rfl⟩) hw 0 8 rfl rfl rfl hl.1 rfl (Nat.le_of_ble_eq_true rfl) dX9_rankOf_116 (fun r_2 M_1 H locs h hw => ?_)
      obtain ⟨ht_, hf_⟩ := h
      refine lv_if_eq (tgt := 129) X.1 X.2.1 dX9_rankOf_119 (by decide) (fun c_ => ?_) (fun c_ => ?_)
      · have h := ht_ c_
        obtain ⟨x_3, ex_3⟩ : ∃ y : Int32, y = x2 + (1 : Int32) := ⟨_, rfl⟩
        have h := h x_3 ex_3
        refine lv_iinc (v := x_3) (lv' := [(2, .int x_3), (0, .ref (η 0))]) X.1 X.2.1 dX9_rankOf_129 hl (k := 1) rfl (by rw [ex_3]; rfl) (by decide) rfl (fun ls hl => ?_)
        refine lv_goto (tgt := 88) X.1 X.2.1 dX9_rankOf_132 (by decide) ?_
        exact hK88 M_1 x_3 _ _ _ h hw (lv_sub hl [1, 0] rfl)
      · have h := hf_ c_
        refine lv_aload_n X.1 X.2.1 dX9_rankOf_122 rfl (lv_at hl 0 rfl) ?_
        refine r_gf X inX9_rankOf_X9 hw 0 rfl rfl 11 (by decide) (X.2.2.2.2 (.fieldLink RX9 58 "TestHallModel" "lineN" "[I") (by decide +kernel)) rfl rfl dX9_rankOf_123 ?_
        refine lv_iload_n X.1 X.2.1 dX9_rankOf_126 rfl (lv_at hl 1 rfl) ?_
        obtain ⟨hi_, h⟩ := h
        refine r_ial X hw 7 0 rfl rfl hi_ dX9_rankOf_127 ?_
        exact r_ret X hr hlk hw h dX9_rankOf_128
def wX9_rankOf (M : Sg) (a1 : Int32) (Q : Sg → Int32 → Prop) : Prop := (vp_in a1 60 ∧ (vp_in (0 : Int32) 6 ∧ (∀ (M_1 : Sg), M_1 = sA M 22 (0 : Int32).toNatClampNeg (gA M 32 a1.toNatClampNeg) → (vp_in a1 60 ∧ (vp_in (1 : Int32) 6 ∧ (∀ (M_2 : Sg), M_2 = sA M_1 22 (1 : Int32).toNatClampNeg (gA M_1 31 a1.toNatClampNeg) → (vp_in a1 60 ∧ (vp_in (2 : Int32) 6 ∧ (∀ (M_3 : Sg), M_3 = sA M_2 22 (2 : Int32).toNatClampNeg ((gI M_2 24) - (gA M_2 37 a1.toNatClampNeg)) → (vp_in a1 60 ∧ (vp_in (3 : Int32) 6 ∧ (∀ (M_4 : Sg), M_4 = sA M_3 22 (3 : Int32).toNatClampNeg (gA M_3 40 a1.toNatClampNeg) → (vp_in a1 60 ∧ (vp_in (4 : Int32) 6 ∧ (∀ (M_5 : Sg), M_5 = sA M_4 22 (4 : Int32).toNatClampNeg ((gA M_4 34 a1.toNatClampNeg) - (gI M_4 24)) → (vp_in (5 : Int32) 6 ∧ (∀ (M_6 : Sg), M_6 = sA M_5 22 (5 : Int32).toNatClampNeg (gI M_5 24) → (∀ (x_7 : Int32), x_7 = ((16 : Int32) * (gI M_6 15)) → (∃ g88_ : Nat, vX9_rankOf_88 Q g88_ M_6 x_7)))))))))))))))))))
set_option maxHeartbeats 4000000 in
set_option maxRecDepth 100000 in
theorem kX9_rankOf {l : Launch} {D : va_G} {κ : Nat → ClassId} {η : Nat → Nat} {σ : (Nat → Nat) × (Nat → Nat)} {M : Sg} {a1 : Int32} {Q : Sg → Int32 → Prop} (h : wX9_rankOf M a1 Q) : Ki (cN σ) D (Ky κ) (mw κ η) l yX9_rankOf wsX9_rankOf rmX9_rankOf [.ref (η 0), .int a1] M Q := by
  refine ofW_g (Qc := fun A => Qi D (Ky κ) (mw κ η) A Q) (cc := cX9_rankOf) (maxL := 3) (ret := (some .int)) (by decide) rfl (Nat.le_of_ble_eq_true rfl) ?_
  intro p e s m args below meth c A ls X hr hlk hw hl
  have hl : lv_has ls 3 [(0, .ref (η 0)), (1, .int a1)] := hl
  refine lv_aload_n X.1 X.2.1 dX9_rankOf_0 rfl (lv_at hl 0 rfl) ?_
  refine r_gf X inX9_rankOf_X9 hw 0 rfl rfl 22 (by decide) (X.2.2.2.2 (.fieldLink RX9 79 "TestHallModel" "known" "[I") (by decide +kernel)) rfl rfl dX9_rankOf_1 ?_
  refine lv_iconst (v := (0 : Int32)) X.1 X.2.1 dX9_rankOf_4 (by decide) ?_
  refine lv_aload_n X.1 X.2.1 dX9_rankOf_5 rfl (lv_at hl 0 rfl) ?_
  refine r_gf X inX9_rankOf_X9 hw 0 rfl rfl 32 (by decide) (X.2.2.2.2 (.fieldLink RX9 101 "TestHallModel" "kind" "[I") (by decide +kernel)) rfl rfl dX9_rankOf_6 ?_
  refine lv_iload_n X.1 X.2.1 dX9_rankOf_9 rfl (lv_at hl 1 rfl) ?_
  obtain ⟨hi_, h⟩ := h
  refine r_ial X hw 21 0 rfl rfl hi_ dX9_rankOf_10 ?_
  obtain ⟨hi_, h⟩ := h
  refine r_ias (w' := mw κ η (sA M 22 (0 : Int32).toNatClampNeg (gA M 32 a1.toNatClampNeg))) X hw 14 0 rfl rfl hi_ rfl dX9_rankOf_11 (fun H locs hw => ?_)
  obtain ⟨M_1, eM_1⟩ : ∃ y : Sg, y = sA M 22 (0 : Int32).toNatClampNeg (gA M 32 a1.toNatClampNeg) := ⟨_, rfl⟩
  rw [← eM_1] at hw
  have h := h M_1 eM_1
  refine lv_aload_n X.1 X.2.1 dX9_rankOf_12 rfl (lv_at hl 0 rfl) ?_
  refine r_gf X inX9_rankOf_X9 hw 0 rfl rfl 22 (by decide) (X.2.2.2.2 (.fieldLink RX9 79 "TestHallModel" "known" "[I") (by decide +kernel)) rfl rfl dX9_rankOf_13 ?_
  refine lv_iconst (v := (1 : Int32)) X.1 X.2.1 dX9_rankOf_16 (by decide) ?_
  refine lv_aload_n X.1 X.2.1 dX9_rankOf_17 rfl (lv_at hl 0 rfl) ?_
  refine r_gf X inX9_rankOf_X9 hw 0 rfl rfl 31 (by decide) (X.2.2.2.2 (.fieldLink RX9 98 "TestHallModel" "home" "[I") (by decide +kernel)) rfl rfl dX9_rankOf_18 ?_
  refine lv_iload_n X.1 X.2.1 dX9_rankOf_21 rfl (lv_at hl 1 rfl) ?_
  obtain ⟨hi_, h⟩ := h
  refine r_ial X hw 20 0 rfl rfl hi_ dX9_rankOf_22 ?_
  obtain ⟨hi_, h⟩ := h
  refine r_ias (w' := mw κ η (sA M_1 22 (1 : Int32).toNatClampNeg (gA M_1 31 a1.toNatClampNeg))) X hw 14 0 rfl rfl hi_ rfl dX9_rankOf_23 (fun H locs hw => ?_)
  obtain ⟨M_2, eM_2⟩ : ∃ y : Sg, y = sA M_1 22 (1 : Int32).toNatClampNeg (gA M_1 31 a1.toNatClampNeg) := ⟨_, rfl⟩
  rw [← eM_2] at hw
  have h := h M_2 eM_2
  refine lv_aload_n X.1 X.2.1 dX9_rankOf_24 rfl (lv_at hl 0 rfl) ?_
  refine r_gf X inX9_rankOf_X9 hw 0 rfl rfl 22 (by decide) (X.2.2.2.2 (.fieldLink RX9 79 "TestHallModel" "known" "[I") (by decide +kernel)) rfl rfl dX9_rankOf_25 ?_
  refine lv_iconst (v := (2 : Int32)) X.1 X.2.1 dX9_rankOf_28 (by decide) ?_
  refine lv_aload_n X.1 X.2.1 dX9_rankOf_29 rfl (lv_at hl 0 rfl) ?_
  refine r_gf X inX9_rankOf_X9 hw 0 rfl rfl 24 (by decide) (X.2.2.2.2 (.fieldLink RX9 259 "TestHallModel" "now" "I") (by decide +kernel)) rfl rfl dX9_rankOf_30 ?_
  refine lv_aload_n X.1 X.2.1 dX9_rankOf_33 rfl (lv_at hl 0 rfl) ?_
  refine r_gf X inX9_rankOf_X9 hw 0 rfl rfl 37 (by decide) (X.2.2.2.2 (.fieldLink RX9 116 "TestHallModel" "came" "[I") (by decide +kernel)) rfl rfl dX9_rankOf_34 ?_
  refine lv_iload_n X.1 X.2.1 dX9_rankOf_37 rfl (lv_at hl 1 rfl) ?_
  obtain ⟨hi_, h⟩ := h
  refine r_ial X hw 26 0 rfl rfl hi_ dX9_rankOf_38 ?_
  refine lv_isub X.1 X.2.1 dX9_rankOf_39 ?_
  obtain ⟨hi_, h⟩ := h
  refine r_ias (w' := mw κ η (sA M_2 22 (2 : Int32).toNatClampNeg ((gI M_2 24) - (gA M_2 37 a1.toNatClampNeg)))) X hw 14 0 rfl rfl hi_ rfl dX9_rankOf_40 (fun H locs hw => ?_)
  obtain ⟨M_3, eM_3⟩ : ∃ y : Sg, y = sA M_2 22 (2 : Int32).toNatClampNeg ((gI M_2 24) - (gA M_2 37 a1.toNatClampNeg)) := ⟨_, rfl⟩
  rw [← eM_3] at hw
  have h := h M_3 eM_3
  refine lv_aload_n X.1 X.2.1 dX9_rankOf_41 rfl (lv_at hl 0 rfl) ?_
  refine r_gf X inX9_rankOf_X9 hw 0 rfl rfl 22 (by decide) (X.2.2.2.2 (.fieldLink RX9 79 "TestHallModel" "known" "[I") (by decide +kernel)) rfl rfl dX9_rankOf_42 ?_
  refine lv_iconst (v := (3 : Int32)) X.1 X.2.1 dX9_rankOf_45 (by decide) ?_
  refine lv_aload_n X.1 X.2.1 dX9_rankOf_46 rfl (lv_at hl 0 rfl) ?_
  refine r_gf X inX9_rankOf_X9 hw 0 rfl rfl 40 (by decide) (X.2.2.2.2 (.fieldLink RX9 125 "TestHallModel" "tries" "[I") (by decide +kernel)) rfl rfl dX9_rankOf_47 ?_
  refine lv_iload_n X.1 X.2.1 dX9_rankOf_50 rfl (lv_at hl 1 rfl) ?_
  obtain ⟨hi_, h⟩ := h
  refine r_ial X hw 29 0 rfl rfl hi_ dX9_rankOf_51 ?_
  obtain ⟨hi_, h⟩ := h
  refine r_ias (w' := mw κ η (sA M_3 22 (3 : Int32).toNatClampNeg (gA M_3 40 a1.toNatClampNeg))) X hw 14 0 rfl rfl hi_ rfl dX9_rankOf_52 (fun H locs hw => ?_)
  obtain ⟨M_4, eM_4⟩ : ∃ y : Sg, y = sA M_3 22 (3 : Int32).toNatClampNeg (gA M_3 40 a1.toNatClampNeg) := ⟨_, rfl⟩
  rw [← eM_4] at hw
  have h := h M_4 eM_4
  refine lv_aload_n X.1 X.2.1 dX9_rankOf_53 rfl (lv_at hl 0 rfl) ?_
  refine r_gf X inX9_rankOf_X9 hw 0 rfl rfl 22 (by decide) (X.2.2.2.2 (.fieldLink RX9 79 "TestHallModel" "known" "[I") (by decide +kernel)) rfl rfl dX9_rankOf_54 ?_
  refine lv_iconst (v := (4 : Int32)) X.1 X.2.1 dX9_rankOf_57 (by decide) ?_
  refine lv_aload_n X.1 X.2.1 dX9_rankOf_58 rfl (lv_at hl 0 rfl) ?_
  refine r_gf X inX9_rankOf_X9 hw 0 rfl rfl 34 (by decide) (X.2.2.2.2 (.fieldLink RX9 107 "TestHallModel" "to" "[I") (by decide +kernel)) rfl rfl dX9_rankOf_59 ?_
  refine lv_iload_n X.1 X.2.1 dX9_rankOf_62 rfl (lv_at hl 1 rfl) ?_
  obtain ⟨hi_, h⟩ := h
  refine r_ial X hw 23 0 rfl rfl hi_ dX9_rankOf_63 ?_
  refine lv_aload_n X.1 X.2.1 dX9_rankOf_64 rfl (lv_at hl 0 rfl) ?_
  refine r_gf X inX9_rankOf_X9 hw 0 rfl rfl 24 (by decide) (X.2.2.2.2 (.fieldLink RX9 259 "TestHallModel" "now" "I") (by decide +kernel)) rfl rfl dX9_rankOf_65 ?_
  refine lv_isub X.1 X.2.1 dX9_rankOf_68 ?_
  obtain ⟨hi_, h⟩ := h
  refine r_ias (w' := mw κ η (sA M_4 22 (4 : Int32).toNatClampNeg ((gA M_4 34 a1.toNatClampNeg) - (gI M_4 24)))) X hw 14 0 rfl rfl hi_ rfl dX9_rankOf_69 (fun H locs hw => ?_)
  obtain ⟨M_5, eM_5⟩ : ∃ y : Sg, y = sA M_4 22 (4 : Int32).toNatClampNeg ((gA M_4 34 a1.toNatClampNeg) - (gI M_4 24)) := ⟨_, rfl⟩
  rw [← eM_5] at hw
  have h := h M_5 eM_5
  refine lv_aload_n X.1 X.2.1 dX9_rankOf_70 rfl (lv_at hl 0 rfl) ?_
  refine r_gf X inX9_rankOf_X9 hw 0 rfl rfl 22 (by decide) (X.2.2.2.2 (.fieldLink RX9 79 "TestHallModel" "known" "[I") (by decide +kernel)) rfl rfl dX9_rankOf_71 ?_
  refine lv_iconst (v := (5 : Int32)) X.1 X.2.1 dX9_rankOf_74 (by decide) ?_
  refine lv_aload_n X.1 X.2.1 dX9_rankOf_75 rfl (lv_at hl 0 rfl) ?_
  refine r_gf X inX9_rankOf_X9 hw 0 rfl rfl 24 (by decide) (X.2.2.2.2 (.fieldLink RX9 259 "TestHallModel" "now" "I") (by decide +kernel)) rfl rfl dX9_rankOf_76 ?_
  obtain ⟨hi_, h⟩ := h
  refine r_ias (w' := mw κ η (sA M_5 22 (5 : Int32).toNatClampNeg (gI M_5 24))) X hw 14 0 rfl rfl hi_ rfl dX9_rankOf_79 (fun H locs hw => ?_)
  obtain ⟨M_6, eM_6⟩ : ∃ y : Sg, y = sA M_5 22 (5 : Int32).toNatClampNeg (gI M_5 24) := ⟨_, rfl⟩
  rw [← eM_6] at hw
  have h := h M_6 eM_6
  refine lv_bipush (v := (16 : Int32)) X.1 X.2.1 dX9_rankOf_80 (by decide) ?_
  refine lv_aload_n X.1 X.2.1 dX9_rankOf_82 rfl (lv_at hl 0 rfl) ?_
  refine r_gf X inX9_rankOf_X9 hw 0 rfl rfl 15 (by decide) (X.2.2.2.2 (.fieldLink RX9 211 "TestHallModel" "holds" "I") (by decide +kernel)) rfl rfl dX9_rankOf_83 ?_
  refine lv_imul X.1 X.2.1 dX9_rankOf_86 ?_
  refine lv_topi (fun x_7 ex_7 => ?_)
  have h := h x_7 ex_7
  refine lv_istore_n (lv' := [(2, .int x_7), (0, .ref (η 0)), (1, .int a1)]) X.1 X.2.1 dX9_rankOf_87 rfl hl (by decide) rfl (fun ls hl => ?_)
  obtain ⟨f_, h⟩ := h
  exact bX9_rankOf_88 X hr hlk f_ M_6 x_7 _ _ _ h hw (lv_sub hl [1, 0] rfl)

theorem inX9_findRanks_X9 : ∀ w ∈ wsX90, w ∈ wsX9_findRanks := fun w h => List.mem_cons_of_mem _ (List.mem_append_right _ h)
abbrev rmX9_findRanks : Room := { frames := 2, cells := 0, slots := 0, locals := 48 }
def vX9_findRanks_2 (Q : Sg → Prop) : Nat → Sg → Int32 → Prop
  | 0, _, _ => False
  | f2_ + 1, M, x1 => (((gI M 30) ≤ x1 → (Q M)) ∧ (¬ (gI M 30) ≤ x1 → (wX9_rankOf M x1 (fun M_1 r_2 => (vp_in x1 60 ∧ (∀ (M_3 : Sg), M_3 = sA M_1 43 x1.toNatClampNeg r_2 → (∀ (x_4 : Int32), x_4 = x1 + (1 : Int32) → (vX9_findRanks_2 Q f2_ M_3 x_4))))))))
set_option maxHeartbeats 4000000 in
set_option maxRecDepth 100000 in
theorem bX9_findRanks_2 {p : Program} {l : Launch} {e : Env} {s : State} {m : MethodId} {args : Array Value} {below : List Frame} {meth : Method} {c : Code} {D : va_G} {κ : Nat → ClassId} {η : Nat → Nat} {σ : (Nat → Nat) × (Nat → Nat)} {A : Nat → Prop} {Q : Sg → Prop} (X : CallFix p m c cX9_findRanks 2 s args wsX9_findRanks RX9) (hr : meth.sig.returnType = none) (hlk : meth.locks = false) : ∀ (f_ : Nat) (M : Sg) (x1 : Int32) (H : Heap) (locs : List Loc) (ls : Array Slot), vX9_findRanks_2 Q f_ M x1 → Wd (cN σ) D (Ky κ) A s (mw κ η M) H locs → lv_has ls 2 [(0, .ref (η 0)), (1, .int x1)] → W p l e rmX9_findRanks s m args below meth c H locs 0 0 (MQ below (Qv D (Ky κ) (mw κ η) A Q) args s 0 0 A) (F0 m 2 ls []) := by
  intro f_
  induction f_ with
  | zero => intro M x1 H locs ls h; exact h.elim
  | succ f_ hK2 =>
    intro M x1 H locs ls h hw hl
    refine lv_iload_n X.1 X.2.1 dX9_findRanks_2 rfl (lv_at hl 1 rfl) ?_
    refine lv_aload_n X.1 X.2.1 dX9_findRanks_3 rfl (lv_at hl 0 rfl) ?_
    refine r_gf X inX9_findRanks_X9 hw 0 rfl rfl 30 (by decide) (X.2.2.2.2 (.fieldLink RX9 256 "TestHallModel" "learners" "I") (by decide +kernel)) rfl rfl dX9_findRanks_4 ?_
    obtain ⟨ht_, hf_⟩ := h
    refine lv_icmp_ge (tgt := 27) X.1 X.2.1 dX9_findRanks_7 (by decide) (fun c_ => ?_) (fun c_ => ?_)
    · have h := ht_ c_
      exact r_vret X hr hlk hw h dX9_findRanks_27
    · have h := hf_ c_
      refine lv_aload_n X.1 X.2.1 dX9_findRanks_10 rfl (lv_at hl 0 rfl) ?_
      refine r_gf X inX9_findRanks_X9 hw 0 rfl rfl 43 (by decide) (X.2.2.2.2 (.fieldLink RX9 131 "TestHallModel" "rank" "[I") (by decide +kernel)) rfl rfl dX9_findRanks_11 ?_
      refine lv_iload_n X.1 X.2.1 dX9_findRanks_14 rfl (lv_at hl 1 rfl) ?_
      refine lv_aload_n X.1 X.2.1 dX9_findRanks_15 rfl (lv_at hl 0 rfl) ?_
      refine lv_iload_n X.1 X.2.1 dX9_findRanks_16 rfl (lv_at hl 1 rfl) ?_
      refine r_Vi (As := [.int x1]) (rest := [.int x1, .ref (η 31)]) X cN_ok (kX9_rankOf h) (cwV 1 X.2.2.2.2 gX9_findRanks_X9_rankOf rfl rfl rfl (by decide +kernel) ⟨Nat.le_of_ble_eq_true rfl, Nat.le_of_ble_eq_true rfl⟩) hw 0 8 rfl rfl rfl hl.1 rfl (Nat.le_of_ble_eq_true rfl) dX9_findRanks_17 (fun r_2 M_1 H locs h hw => ?_)
      obtain ⟨hi_, h⟩ := h
      refine r_ias (w' := mw κ η (sA M_1 43 x1.toNatClampNeg r_2)) X hw 31 0 rfl rfl hi_ rfl dX9_findRanks_20 (fun H locs hw => ?_)
      obtain ⟨M_3, eM_3⟩ : ∃ y : Sg, y = sA M_1 43 x1.toNatClampNeg r_2 := ⟨_, rfl⟩
      rw [← eM_3] at hw
      have h := h M_3 eM_3
      obtain ⟨x_4, ex_4⟩ : ∃ y : Int32, y = x1 + (1 : Int32) := ⟨_, rfl⟩
      have h := h x_4 ex_4
      refine lv_iinc (v := x_4) (lv' := [(1, .int x_4), (0, .ref (η 0))]) X.1 X.2.1 dX9_findRanks_21 hl (k := 1) rfl (by rw [ex_4]; rfl) (by decide) rfl (fun ls hl => ?_)
      refine lv_goto (tgt := 2) X.1 X.2.1 dX9_findRanks_24 (by decide) ?_
      exact hK2 M_3 x_4 _ _ _ h hw (lv_sub hl [1, 0] rfl)
def wX9_findRanks (M : Sg) (Q : Sg → Prop) : Prop := (∃ g2_ : Nat, vX9_findRanks_2 Q g2_ M (0 : Int32))
set_option maxHeartbeats 4000000 in
set_option maxRecDepth 100000 in
theorem kX9_findRanks {l : Launch} {D : va_G} {κ : Nat → ClassId} {η : Nat → Nat} {σ : (Nat → Nat) × (Nat → Nat)} {M : Sg} {Q : Sg → Prop} (h : wX9_findRanks M Q) : Kv (cN σ) D (Ky κ) (mw κ η) l yX9_findRanks wsX9_findRanks rmX9_findRanks [.ref (η 0)] M Q := by
  refine ofW_g (Qc := fun A => Qv D (Ky κ) (mw κ η) A Q) (cc := cX9_findRanks) (maxL := 2) (ret := none) (by decide) rfl (Nat.le_of_ble_eq_true rfl) ?_
  intro p e s m args below meth c A ls X hr hlk hw hl
  have hl : lv_has ls 2 [(0, .ref (η 0))] := hl
  refine lv_iconst (v := (0 : Int32)) X.1 X.2.1 dX9_findRanks_0 (by decide) ?_
  refine lv_istore_n (lv' := [(1, .int (0 : Int32)), (0, .ref (η 0))]) X.1 X.2.1 dX9_findRanks_1 rfl hl (by decide) rfl (fun ls hl => ?_)
  obtain ⟨f_, h⟩ := h
  exact bX9_findRanks_2 X hr hlk f_ M (0 : Int32) _ _ _ h hw (lv_sub hl [1, 0] rfl)

theorem inX9_isAhead_X9 : ∀ w ∈ wsX90, w ∈ wsX9_isAhead := fun w h => List.mem_cons_of_mem _ (List.mem_append_right _ h)
abbrev rmX9_isAhead : Room := { frames := 0, cells := 0, slots := 0, locals := 0 }
def wX9_isAhead (M : Sg) (a1 : Int32) (a2 : Int32) (Q : Sg → Int32 → Prop) : Prop := (vp_in a1 60 ∧ (vp_in a2 60 ∧ (((gA M 43 a2.toNatClampNeg) < (gA M 43 a1.toNatClampNeg) → (Q M (1 : Int32))) ∧ (¬ (gA M 43 a2.toNatClampNeg) < (gA M 43 a1.toNatClampNeg) → (vp_in a1 60 ∧ (vp_in a2 60 ∧ ((¬ (gA M 43 a1.toNatClampNeg) = (gA M 43 a2.toNatClampNeg) → (Q M (0 : Int32))) ∧ ((gA M 43 a1.toNatClampNeg) = (gA M 43 a2.toNatClampNeg) → ((a2 ≤ a1 → (Q M (0 : Int32))) ∧ (¬ a2 ≤ a1 → (Q M (1 : Int32))))))))))))
set_option maxHeartbeats 4000000 in
set_option maxRecDepth 100000 in
theorem kX9_isAhead {l : Launch} {D : va_G} {κ : Nat → ClassId} {η : Nat → Nat} {σ : (Nat → Nat) × (Nat → Nat)} {M : Sg} {a1 : Int32} {a2 : Int32} {Q : Sg → Int32 → Prop} (h : wX9_isAhead M a1 a2 Q) : Ki (cN σ) D (Ky κ) (mw κ η) l yX9_isAhead wsX9_isAhead rmX9_isAhead [.ref (η 0), .int a1, .int a2] M Q := by
  refine ofW_g (Qc := fun A => Qi D (Ky κ) (mw κ η) A Q) (cc := cX9_isAhead) (maxL := 3) (ret := (some .boolean)) (by decide) rfl (Nat.le_of_ble_eq_true rfl) ?_
  intro p e s m args below meth c A ls X hr hlk hw hl
  have hl : lv_has ls 3 [(0, .ref (η 0)), (1, .int a1), (2, .int a2)] := hl
  refine lv_aload_n X.1 X.2.1 dX9_isAhead_0 rfl (lv_at hl 0 rfl) ?_
  refine r_gf X inX9_isAhead_X9 hw 0 rfl rfl 43 (by decide) (X.2.2.2.2 (.fieldLink RX9 131 "TestHallModel" "rank" "[I") (by decide +kernel)) rfl rfl dX9_isAhead_1 ?_
  refine lv_iload_n X.1 X.2.1 dX9_isAhead_4 rfl (lv_at hl 1 rfl) ?_
  obtain ⟨hi_, h⟩ := h
  refine r_ial X hw 31 0 rfl rfl hi_ dX9_isAhead_5 ?_
  refine lv_aload_n X.1 X.2.1 dX9_isAhead_6 rfl (lv_at hl 0 rfl) ?_
  refine r_gf X inX9_isAhead_X9 hw 0 rfl rfl 43 (by decide) (X.2.2.2.2 (.fieldLink RX9 131 "TestHallModel" "rank" "[I") (by decide +kernel)) rfl rfl dX9_isAhead_7 ?_
  refine lv_iload_n X.1 X.2.1 dX9_isAhead_10 rfl (lv_at hl 2 rfl) ?_
  obtain ⟨hi_, h⟩ := h
  refine r_ial X hw 31 0 rfl rfl hi_ dX9_isAhead_11 ?_
  obtain ⟨ht_, hf_⟩ := h
  refine lv_icmp_gt (tgt := 35) X.1 X.2.1 dX9_isAhead_12 (by decide) (fun c_ => ?_) (fun c_ => ?_)
  · have h := ht_ c_
    refine lv_iconst (v := (1 : Int32)) X.1 X.2.1 dX9_isAhead_35 (by decide) ?_
    refine lv_goto (tgt := 40) X.1 X.2.1 dX9_isAhead_36 (by decide) ?_
    exact r_zret X hr hlk hw rfl h dX9_isAhead_40
  · have h := hf_ c_
    refine lv_aload_n X.1 X.2.1 dX9_isAhead_15 rfl (lv_at hl 0 rfl) ?_
    refine r_gf X inX9_isAhead_X9 hw 0 rfl rfl 43 (by decide) (X.2.2.2.2 (.fieldLink RX9 131 "TestHallModel" "rank" "[I") (by decide +kernel)) rfl rfl dX9_isAhead_16 ?_
    refine lv_iload_n X.1 X.2.1 dX9_isAhead_19 rfl (lv_at hl 1 rfl) ?_
    obtain ⟨hi_, h⟩ := h
    refine r_ial X hw 31 0 rfl rfl hi_ dX9_isAhead_20 ?_
    refine lv_aload_n X.1 X.2.1 dX9_isAhead_21 rfl (lv_at hl 0 rfl) ?_
    refine r_gf X inX9_isAhead_X9 hw 0 rfl rfl 43 (by decide) (X.2.2.2.2 (.fieldLink RX9 131 "TestHallModel" "rank" "[I") (by decide +kernel)) rfl rfl dX9_isAhead_22 ?_
    refine lv_iload_n X.1 X.2.1 dX9_isAhead_25 rfl (lv_at hl 2 rfl) ?_
    obtain ⟨hi_, h⟩ := h
    refine r_ial X hw 31 0 rfl rfl hi_ dX9_isAhead_26 ?_
    obtain ⟨ht_, hf_⟩ := h
    refine lv_icmp_ne (tgt := 39) X.1 X.2.1 dX9_isAhead_27 (by decide) (fun c_ => ?_) (fun c_ => ?_)
    · have h := ht_ c_
      refine lv_iconst (v := (0 : Int32)) X.1 X.2.1 dX9_isAhead_39 (by decide) ?_
      exact r_zret X hr hlk hw rfl h dX9_isAhead_40
    · have h := hf_ c_
      refine lv_iload_n X.1 X.2.1 dX9_isAhead_30 rfl (lv_at hl 1 rfl) ?_
      refine lv_iload_n X.1 X.2.1 dX9_isAhead_31 rfl (lv_at hl 2 rfl) ?_
      obtain ⟨ht_, hf_⟩ := h
      refine lv_icmp_ge (tgt := 39) X.1 X.2.1 dX9_isAhead_32 (by decide) (fun c_ => ?_) (fun c_ => ?_)
      · have h := ht_ c_
        refine lv_iconst (v := (0 : Int32)) X.1 X.2.1 dX9_isAhead_39 (by decide) ?_
        exact r_zret X hr hlk hw rfl h dX9_isAhead_40
      · have h := hf_ c_
        refine lv_iconst (v := (1 : Int32)) X.1 X.2.1 dX9_isAhead_35 (by decide) ?_
        refine lv_goto (tgt := 40) X.1 X.2.1 dX9_isAhead_36 (by decide) ?_
        exact r_zret X hr hlk hw rfl h dX9_isAhead_40

theorem inX9_books_X9 : ∀ w ∈ wsX90, w ∈ wsX9_books := fun w h => List.mem_cons_of_mem _ (List.mem_append_right _ h)
abbrev rmX9_books : Room := { frames := 0, cells := 0, slots := 0, locals := 0 }
def wX9_books (M : Sg) (a1 : Int32) (a2 : Int32) (Q : Sg → Prop) : Prop := (vp_in a1 60 ∧ (∀ (M_1 : Sg), M_1 = sA M 38 a1.toNatClampNeg (1 : Int32) → (vp_in a1 60 ∧ (∀ (M_2 : Sg), M_2 = sA M_1 39 a1.toNatClampNeg a2 → (Q M_2)))))
set_option maxHeartbeats 4000000 in
set_option maxRecDepth 100000 in
theorem kX9_books {l : Launch} {D : va_G} {κ : Nat → ClassId} {η : Nat → Nat} {σ : (Nat → Nat) × (Nat → Nat)} {M : Sg} {a1 : Int32} {a2 : Int32} {Q : Sg → Prop} (h : wX9_books M a1 a2 Q) : Kv (cN σ) D (Ky κ) (mw κ η) l yX9_books wsX9_books rmX9_books [.ref (η 0), .int a1, .int a2] M Q := by
  refine ofW_g (Qc := fun A => Qv D (Ky κ) (mw κ η) A Q) (cc := cX9_books) (maxL := 3) (ret := none) (by decide) rfl (Nat.le_of_ble_eq_true rfl) ?_
  intro p e s m args below meth c A ls X hr hlk hw hl
  have hl : lv_has ls 3 [(0, .ref (η 0)), (1, .int a1), (2, .int a2)] := hl
  refine lv_aload_n X.1 X.2.1 dX9_books_0 rfl (lv_at hl 0 rfl) ?_
  refine r_gf X inX9_books_X9 hw 0 rfl rfl 38 (by decide) (X.2.2.2.2 (.fieldLink RX9 119 "TestHallModel" "state" "[I") (by decide +kernel)) rfl rfl dX9_books_1 ?_
  refine lv_iload_n X.1 X.2.1 dX9_books_4 rfl (lv_at hl 1 rfl) ?_
  refine lv_iconst (v := (1 : Int32)) X.1 X.2.1 dX9_books_5 (by decide) ?_
  obtain ⟨hi_, h⟩ := h
  refine r_ias (w' := mw κ η (sA M 38 a1.toNatClampNeg (1 : Int32))) X hw 27 0 rfl rfl hi_ rfl dX9_books_6 (fun H locs hw => ?_)
  obtain ⟨M_1, eM_1⟩ : ∃ y : Sg, y = sA M 38 a1.toNatClampNeg (1 : Int32) := ⟨_, rfl⟩
  rw [← eM_1] at hw
  have h := h M_1 eM_1
  refine lv_aload_n X.1 X.2.1 dX9_books_7 rfl (lv_at hl 0 rfl) ?_
  refine r_gf X inX9_books_X9 hw 0 rfl rfl 39 (by decide) (X.2.2.2.2 (.fieldLink RX9 122 "TestHallModel" "slot" "[I") (by decide +kernel)) rfl rfl dX9_books_8 ?_
  refine lv_iload_n X.1 X.2.1 dX9_books_11 rfl (lv_at hl 1 rfl) ?_
  refine lv_iload_n X.1 X.2.1 dX9_books_12 rfl (lv_at hl 2 rfl) ?_
  obtain ⟨hi_, h⟩ := h
  refine r_ias (w' := mw κ η (sA M_1 39 a1.toNatClampNeg a2)) X hw 28 0 rfl rfl hi_ rfl dX9_books_13 (fun H locs hw => ?_)
  obtain ⟨M_2, eM_2⟩ : ∃ y : Sg, y = sA M_1 39 a1.toNatClampNeg a2 := ⟨_, rfl⟩
  rw [← eM_2] at hw
  have h := h M_2 eM_2
  exact r_vret X hr hlk hw h dX9_books_14

theorem inX9_firstDealt_X9 : ∀ w ∈ wsX90, w ∈ wsX9_firstDealt := fun w h => List.mem_cons_of_mem _ (List.mem_append_right _ h)
abbrev rmX9_firstDealt : Room := { frames := 1, cells := 0, slots := 0, locals := 22 }
def vX9_firstDealt_39 (K4 : Sg → Int32 → Int32 → Prop) (Q : Sg → Int32 → Prop) (M : Sg) (x2 : Int32) (s0 : Int32) : Prop := (∀ (x_1 : Int32), x_1 = x2 + (1 : Int32) → (K4 M s0 x_1))
set_option maxHeartbeats 4000000 in
set_option maxRecDepth 100000 in
theorem bX9_firstDealt_39 {p : Program} {l : Launch} {e : Env} {s : State} {m : MethodId} {args : Array Value} {below : List Frame} {meth : Method} {c : Code} {D : va_G} {κ : Nat → ClassId} {η : Nat → Nat} {σ : (Nat → Nat) × (Nat → Nat)} {A : Nat → Prop} {Q : Sg → Int32 → Prop} {K4 : Sg → Int32 → Int32 → Prop} (X : CallFix p m c cX9_firstDealt 3 s args wsX9_firstDealt RX9) (hr : meth.sig.returnType = (some .int)) (hlk : meth.locks = false) (hK4 : ∀ (M : Sg) (x1 : Int32) (x2 : Int32) (H : Heap) (locs : List Loc) (ls : Array Slot), K4 M x1 x2 → Wd (cN σ) D (Ky κ) A s (mw κ η M) H locs → lv_has ls 3 [(0, .ref (η 0)), (1, .int x1), (2, .int x2)] → W p l e rmX9_firstDealt s m args below meth c H locs 0 0 (MQ below (Qi D (Ky κ) (mw κ η) A Q) args s 0 0 A) (F0 m 4 ls [])) : ∀ (M : Sg) (x2 : Int32) (s0 : Int32) (H : Heap) (locs : List Loc) (ls : Array Slot), vX9_firstDealt_39 K4 Q M x2 s0 → Wd (cN σ) D (Ky κ) A s (mw κ η M) H locs → lv_has ls 3 [(0, .ref (η 0)), (2, .int x2)] → W p l e rmX9_firstDealt s m args below meth c H locs 0 0 (MQ below (Qi D (Ky κ) (mw κ η) A Q) args s 0 0 A) (F0 m 39 ls [.int s0]) := by
  intro M x2 s0 H locs ls h hw hl
  refine lv_istore_n (lv' := [(1, .int s0), (0, .ref (η 0)), (2, .int x2)]) X.1 X.2.1 dX9_firstDealt_39 rfl hl (by decide) rfl (fun ls hl => ?_)
  obtain ⟨x_1, ex_1⟩ : ∃ y : Int32, y = x2 + (1 : Int32) := ⟨_, rfl⟩
  have h := h x_1 ex_1
  refine lv_iinc (v := x_1) (lv' := [(2, .int x_1), (1, .int s0), (0, .ref (η 0))]) X.1 X.2.1 dX9_firstDealt_40 hl (k := 2) rfl (by rw [ex_1]; rfl) (by decide) rfl (fun ls hl => ?_)
  refine lv_goto (tgt := 4) X.1 X.2.1 dX9_firstDealt_43 (by decide) ?_
  exact hK4 M s0 x_1 _ _ _ h hw (lv_sub hl [2, 1, 0] rfl)
def vX9_firstDealt_38 (K4 : Sg → Int32 → Int32 → Prop) (Q : Sg → Int32 → Prop) (M : Sg) (x1 : Int32) (x2 : Int32) : Prop := (vX9_firstDealt_39 K4 Q M x2 x1)
set_option maxHeartbeats 4000000 in
set_option maxRecDepth 100000 in
theorem bX9_firstDealt_38 {p : Program} {l : Launch} {e : Env} {s : State} {m : MethodId} {args : Array Value} {below : List Frame} {meth : Method} {c : Code} {D : va_G} {κ : Nat → ClassId} {η : Nat → Nat} {σ : (Nat → Nat) × (Nat → Nat)} {A : Nat → Prop} {Q : Sg → Int32 → Prop} {K4 : Sg → Int32 → Int32 → Prop} (X : CallFix p m c cX9_firstDealt 3 s args wsX9_firstDealt RX9) (hr : meth.sig.returnType = (some .int)) (hlk : meth.locks = false) (hK4 : ∀ (M : Sg) (x1 : Int32) (x2 : Int32) (H : Heap) (locs : List Loc) (ls : Array Slot), K4 M x1 x2 → Wd (cN σ) D (Ky κ) A s (mw κ η M) H locs → lv_has ls 3 [(0, .ref (η 0)), (1, .int x1), (2, .int x2)] → W p l e rmX9_firstDealt s m args below meth c H locs 0 0 (MQ below (Qi D (Ky κ) (mw κ η) A Q) args s 0 0 A) (F0 m 4 ls [])) : ∀ (M : Sg) (x1 : Int32) (x2 : Int32) (H : Heap) (locs : List Loc) (ls : Array Slot), vX9_firstDealt_38 K4 Q M x1 x2 → Wd (cN σ) D (Ky κ) A s (mw κ η M) H locs → lv_has ls 3 [(0, .ref (η 0)), (1, .int x1), (2, .int x2)] → W p l e rmX9_firstDealt s m args below meth c H locs 0 0 (MQ below (Qi D (Ky κ) (mw κ η) A Q) args s 0 0 A) (F0 m 38 ls []) := by
  intro M x1 x2 H locs ls h hw hl
  refine lv_iload_n X.1 X.2.1 dX9_firstDealt_38 rfl (lv_at hl 1 rfl) ?_
  exact bX9_firstDealt_39 X hr hlk hK4 M x2 x1 _ _ _ h hw (lv_sub hl [0, 2] rfl)
def vX9_firstDealt_34 (K4 : Sg → Int32 → Int32 → Prop) (Q : Sg → Int32 → Prop) (M : Sg) (x2 : Int32) : Prop := (vX9_firstDealt_39 K4 Q M x2 x2)
set_option maxHeartbeats 4000000 in
set_option maxRecDepth 100000 in
theorem bX9_firstDealt_34 {p : Program} {l : Launch} {e : Env} {s : State} {m : MethodId} {args : Array Value} {below : List Frame} {meth : Method} {c : Code} {D : va_G} {κ : Nat → ClassId} {η : Nat → Nat} {σ : (Nat → Nat) × (Nat → Nat)} {A : Nat → Prop} {Q : Sg → Int32 → Prop} {K4 : Sg → Int32 → Int32 → Prop} (X : CallFix p m c cX9_firstDealt 3 s args wsX9_firstDealt RX9) (hr : meth.sig.returnType = (some .int)) (hlk : meth.locks = false) (hK4 : ∀ (M : Sg) (x1 : Int32) (x2 : Int32) (H : Heap) (locs : List Loc) (ls : Array Slot), K4 M x1 x2 → Wd (cN σ) D (Ky κ) A s (mw κ η M) H locs → lv_has ls 3 [(0, .ref (η 0)), (1, .int x1), (2, .int x2)] → W p l e rmX9_firstDealt s m args below meth c H locs 0 0 (MQ below (Qi D (Ky κ) (mw κ η) A Q) args s 0 0 A) (F0 m 4 ls [])) : ∀ (M : Sg) (x2 : Int32) (H : Heap) (locs : List Loc) (ls : Array Slot), vX9_firstDealt_34 K4 Q M x2 → Wd (cN σ) D (Ky κ) A s (mw κ η M) H locs → lv_has ls 3 [(0, .ref (η 0)), (2, .int x2)] → W p l e rmX9_firstDealt s m args below meth c H locs 0 0 (MQ below (Qi D (Ky κ) (mw κ η) A Q) args s 0 0 A) (F0 m 34 ls []) := by
  intro M x2 H locs ls h hw hl
  refine lv_iload_n X.1 X.2.1 dX9_firstDealt_34 rfl (lv_at hl 1 rfl) ?_
  refine lv_goto (tgt := 39) X.1 X.2.1 dX9_firstDealt_35 (by decide) ?_
  exact bX9_firstDealt_39 X hr hlk hK4 M x2 x2 _ _ _ h hw (lv_sub hl [0, 1] rfl)
def vX9_firstDealt_4 (Q : Sg → Int32 → Prop) : Nat → Sg → Int32 → Int32 → Prop
  | 0, _, _, _ => False
  | f4_ + 1, M, x1, x2 => (((gI M 30) ≤ x2 → (Q M x1)) ∧ (¬ (gI M 30) ≤ x2 → (vp_in x2 60 ∧ (((gA M 44 x2.toNatClampNeg) = 0 → (vX9_firstDealt_38 (vX9_firstDealt_4 Q f4_) Q M x1 x2)) ∧ (¬ (gA M 44 x2.toNatClampNeg) = 0 → ((x1 < 0 → (vX9_firstDealt_34 (vX9_firstDealt_4 Q f4_) Q M x2)) ∧ (¬ x1 < 0 → (wX9_isAhead M x2 x1 (fun M_1 r_2 => ((r_2 = 0 → (vX9_firstDealt_38 (vX9_firstDealt_4 Q f4_) Q M_1 x1 x2)) ∧ (¬ r_2 = 0 → (vX9_firstDealt_34 (vX9_firstDealt_4 Q f4_) Q M_1 x2))))))))))))
set_option maxHeartbeats 4000000 in
set_option maxRecDepth 100000 in
theorem bX9_firstDealt_4 {p : Program} {l : Launch} {e : Env} {s : State} {m : MethodId} {args : Array Value} {below : List Frame} {meth : Method} {c : Code} {D : va_G} {κ : Nat → ClassId} {η : Nat → Nat} {σ : (Nat → Nat) × (Nat → Nat)} {A : Nat → Prop} {Q : Sg → Int32 → Prop} (X : CallFix p m c cX9_firstDealt 3 s args wsX9_firstDealt RX9) (hr : meth.sig.returnType = (some .int)) (hlk : meth.locks = false) : ∀ (f_ : Nat) (M : Sg) (x1 : Int32) (x2 : Int32) (H : Heap) (locs : List Loc) (ls : Array Slot), vX9_firstDealt_4 Q f_ M x1 x2 → Wd (cN σ) D (Ky κ) A s (mw κ η M) H locs → lv_has ls 3 [(0, .ref (η 0)), (1, .int x1), (2, .int x2)] → W p l e rmX9_firstDealt s m args below meth c H locs 0 0 (MQ below (Qi D (Ky κ) (mw κ η) A Q) args s 0 0 A) (F0 m 4 ls []) := by
  intro f_
  induction f_ with
  | zero => intro M x1 x2 H locs ls h; exact h.elim
  | succ f_ hK4 =>
    intro M x1 x2 H locs ls h hw hl
    refine lv_iload_n X.1 X.2.1 dX9_firstDealt_4 rfl (lv_at hl 2 rfl) ?_
    refine lv_aload_n X.1 X.2.1 dX9_firstDealt_5 rfl (lv_at hl 0 rfl) ?_
    refine r_gf X inX9_firstDealt_X9 hw 0 rfl rfl 30 (by decide) (X.2.2.2.2 (.fieldLink RX9 256 "TestHallModel" "learners" "I") (by decide +kernel)) rfl rfl dX9_firstDealt_6 ?_
    obtain ⟨ht_, hf_⟩ := h
    refine lv_icmp_ge (tgt := 46) X.1 X.2.1 dX9_firstDealt_9 (by decide) (fun c_ => ?_) (fun c_ => ?_)
    · have h := ht_ c_
      refine lv_iload_n X.1 X.2.1 dX9_firstDealt_46 rfl (lv_at hl 1 rfl) ?_
      exact r_ret X hr hlk hw h dX9_firstDealt_47
    · have h := hf_ c_
      refine lv_aload_n X.1 X.2.1 dX9_firstDealt_12 rfl (lv_at hl 0 rfl) ?_
      refine r_gf X inX9_firstDealt_X9 hw 0 rfl rfl 44 (by decide) (X.2.2.2.2 (.fieldLink RX9 134 "TestHallModel" "isDealt" "[Z") (by decide +kernel)) rfl rfl dX9_firstDealt_13 ?_
      refine lv_iload_n X.1 X.2.1 dX9_firstDealt_16 rfl (lv_at hl 2 rfl) ?_
      obtain ⟨hi_, h⟩ := h
      refine r_zal X hw 32 1 rfl rfl hi_ dX9_firstDealt_17 ?_
      obtain ⟨ht_, hf_⟩ := h
      refine lv_if_eq (tgt := 38) X.1 X.2.1 dX9_firstDealt_18 (by decide) (fun c_ => ?_) (fun c_ => ?_)
      · have h := ht_ c_
        exact bX9_firstDealt_38 X hr hlk hK4 M x1 x2 _ _ _ h hw (lv_sub hl [0, 1, 2] rfl)
      · have h := hf_ c_
        refine lv_iload_n X.1 X.2.1 dX9_firstDealt_21 rfl (lv_at hl 1 rfl) ?_
        obtain ⟨ht_, hf_⟩ := h
        refine lv_if_lt (tgt := 34) X.1 X.2.1 dX9_firstDealt_22 (by decide) (fun c_ => ?_) (fun c_ => ?_)
        · have h := ht_ c_
          exact bX9_firstDealt_34 X hr hlk hK4 M x2 _ _ _ h hw (lv_sub hl [0, 2] rfl)
        · have h := hf_ c_
          refine lv_aload_n X.1 X.2.1 dX9_firstDealt_25 rfl (lv_at hl 0 rfl) ?_
          refine lv_iload_n X.1 X.2.1 dX9_firstDealt_26 rfl (lv_at hl 2 rfl) ?_
          refine lv_iload_n X.1 X.2.1 dX9_firstDealt_27 rfl (lv_at hl 1 rfl) ?_
          refine r_Vi (As := [.int x2, .int x1]) (rest := []) X cN_ok (kX9_isAhead h) (cwV 2 X.2.2.2.2 gX9_firstDealt_X9_isAhead rfl rfl rfl (by decide +kernel) ⟨Nat.le_of_ble_eq_true rfl, Nat.le_of_ble_eq_true rfl⟩) hw 0 8 rfl rfl rfl hl.1 rfl (Nat.le_of_ble_eq_true rfl) dX9_firstDealt_28 (fun r_2 M_1 H locs h hw => ?_)
          obtain ⟨ht_, hf_⟩ := h
          refine lv_if_eq (tgt := 38) X.1 X.2.1 dX9_firstDealt_31 (by decide) (fun c_ => ?_) (fun c_ => ?_)
          · have h := ht_ c_
            exact bX9_firstDealt_38 X hr hlk hK4 M_1 x1 x2 _ _ _ h hw (lv_sub hl [0, 1, 2] rfl)
          · have h := hf_ c_
            exact bX9_firstDealt_34 X hr hlk hK4 M_1 x2 _ _ _ h hw (lv_sub hl [0, 2] rfl)
def wX9_firstDealt (M : Sg) (Q : Sg → Int32 → Prop) : Prop := (∃ g4_ : Nat, vX9_firstDealt_4 Q g4_ M (-1 : Int32) (0 : Int32))
set_option maxHeartbeats 4000000 in
set_option maxRecDepth 100000 in
theorem kX9_firstDealt {l : Launch} {D : va_G} {κ : Nat → ClassId} {η : Nat → Nat} {σ : (Nat → Nat) × (Nat → Nat)} {M : Sg} {Q : Sg → Int32 → Prop} (h : wX9_firstDealt M Q) : Ki (cN σ) D (Ky κ) (mw κ η) l yX9_firstDealt wsX9_firstDealt rmX9_firstDealt [.ref (η 0)] M Q := by
  refine ofW_g (Qc := fun A => Qi D (Ky κ) (mw κ η) A Q) (cc := cX9_firstDealt) (maxL := 3) (ret := (some .int)) (by decide) rfl (Nat.le_of_ble_eq_true rfl) ?_
  intro p e s m args below meth c A ls X hr hlk hw hl
  have hl : lv_has ls 3 [(0, .ref (η 0))] := hl
  refine lv_iconst (v := (-1 : Int32)) X.1 X.2.1 dX9_firstDealt_0 (by decide) ?_
  refine lv_istore_n (lv' := [(1, .int (-1 : Int32)), (0, .ref (η 0))]) X.1 X.2.1 dX9_firstDealt_1 rfl hl (by decide) rfl (fun ls hl => ?_)
  refine lv_iconst (v := (0 : Int32)) X.1 X.2.1 dX9_firstDealt_2 (by decide) ?_
  refine lv_istore_n (lv' := [(2, .int (0 : Int32)), (1, .int (-1 : Int32)), (0, .ref (η 0))]) X.1 X.2.1 dX9_firstDealt_3 rfl hl (by decide) rfl (fun ls hl => ?_)
  obtain ⟨f_, h⟩ := h
  exact bX9_firstDealt_4 X hr hlk f_ M (-1 : Int32) (0 : Int32) _ _ _ h hw (lv_sub hl [2, 1, 0] rfl)

theorem inX9_deals_X9 : ∀ w ∈ wsX90, w ∈ wsX9_deals := fun w h => List.mem_cons_of_mem _ (List.mem_append_right _ h)
abbrev rmX9_deals : Room := { frames := 3, cells := 0, slots := 0, locals := 69 }
def vX9_deals_80 (K11 : Sg → Int32 → Int32 → Prop) (Q : Sg → Int32 → Prop) (M : Sg) (x1 : Int32) : Prop := (wX9_firstDealt M (fun M_1 r_2 => (K11 M_1 x1 r_2)))
set_option maxHeartbeats 4000000 in
set_option maxRecDepth 100000 in
theorem bX9_deals_80 {p : Program} {l : Launch} {e : Env} {s : State} {m : MethodId} {args : Array Value} {below : List Frame} {meth : Method} {c : Code} {D : va_G} {κ : Nat → ClassId} {η : Nat → Nat} {σ : (Nat → Nat) × (Nat → Nat)} {A : Nat → Prop} {Q : Sg → Int32 → Prop} {K11 : Sg → Int32 → Int32 → Prop} (X : CallFix p m c cX9_deals 4 s args wsX9_deals RX9) (hr : meth.sig.returnType = (some .int)) (hlk : meth.locks = false) (hK11 : ∀ (M : Sg) (x1 : Int32) (x2 : Int32) (H : Heap) (locs : List Loc) (ls : Array Slot), K11 M x1 x2 → Wd (cN σ) D (Ky κ) A s (mw κ η M) H locs → lv_has ls 4 [(0, .ref (η 0)), (1, .int x1), (2, .int x2)] → W p l e rmX9_deals s m args below meth c H locs 0 0 (MQ below (Qi D (Ky κ) (mw κ η) A Q) args s 0 0 A) (F0 m 11 ls [])) : ∀ (M : Sg) (x1 : Int32) (H : Heap) (locs : List Loc) (ls : Array Slot), vX9_deals_80 K11 Q M x1 → Wd (cN σ) D (Ky κ) A s (mw κ η M) H locs → lv_has ls 4 [(0, .ref (η 0)), (1, .int x1)] → W p l e rmX9_deals s m args below meth c H locs 0 0 (MQ below (Qi D (Ky κ) (mw κ η) A Q) args s 0 0 A) (F0 m 80 ls []) := by
  intro M x1 H locs ls h hw hl
  refine lv_aload_n X.1 X.2.1 dX9_deals_80 rfl (lv_at hl 0 rfl) ?_
  refine r_Vi (As := []) (rest := []) X cN_ok (kX9_firstDealt h) (cwV 0 X.2.2.2.2 gX9_deals_X9_firstDealt rfl rfl rfl (by decide +kernel) ⟨Nat.le_of_ble_eq_true rfl, Nat.le_of_ble_eq_true rfl⟩) hw 0 8 rfl rfl rfl hl.1 rfl (Nat.le_of_ble_eq_true rfl) dX9_deals_81 (fun r_2 M_1 H locs h hw => ?_)
  refine lv_istore_n (lv' := [(2, .int r_2), (0, .ref (η 0)), (1, .int x1)]) X.1 X.2.1 dX9_deals_84 rfl hl (by decide) rfl (fun ls hl => ?_)
  refine lv_goto (tgt := 11) X.1 X.2.1 dX9_deals_85 (by decide) ?_
  exact hK11 M_1 x1 r_2 _ _ _ h hw (lv_sub hl [1, 2, 0] rfl)
def vX9_deals_74 (K11 : Sg → Int32 → Int32 → Prop) (K32 : Sg → Int32 → Int32 → Int32 → Prop) (Q : Sg → Int32 → Prop) (M : Sg) (x1 : Int32) (x2 : Int32) (x3 : Int32) : Prop := (∀ (x_1 : Int32), x_1 = x3 + (1 : Int32) → (K32 M x1 x2 x_1))
set_option maxHeartbeats 4000000 in
set_option maxRecDepth 100000 in
theorem bX9_deals_74 {p : Program} {l : Launch} {e : Env} {s : State} {m : MethodId} {args : Array Value} {below : List Frame} {meth : Method} {c : Code} {D : va_G} {κ : Nat → ClassId} {η : Nat → Nat} {σ : (Nat → Nat) × (Nat → Nat)} {A : Nat → Prop} {Q : Sg → Int32 → Prop} {K11 : Sg → Int32 → Int32 → Prop} {K32 : Sg → Int32 → Int32 → Int32 → Prop} (X : CallFix p m c cX9_deals 4 s args wsX9_deals RX9) (hr : meth.sig.returnType = (some .int)) (hlk : meth.locks = false) (hK11 : ∀ (M : Sg) (x1 : Int32) (x2 : Int32) (H : Heap) (locs : List Loc) (ls : Array Slot), K11 M x1 x2 → Wd (cN σ) D (Ky κ) A s (mw κ η M) H locs → lv_has ls 4 [(0, .ref (η 0)), (1, .int x1), (2, .int x2)] → W p l e rmX9_deals s m args below meth c H locs 0 0 (MQ below (Qi D (Ky κ) (mw κ η) A Q) args s 0 0 A) (F0 m 11 ls [])) (hK32 : ∀ (M : Sg) (x1 : Int32) (x2 : Int32) (x3 : Int32) (H : Heap) (locs : List Loc) (ls : Array Slot), K32 M x1 x2 x3 → Wd (cN σ) D (Ky κ) A s (mw κ η M) H locs → lv_has ls 4 [(0, .ref (η 0)), (1, .int x1), (2, .int x2), (3, .int x3)] → W p l e rmX9_deals s m args below meth c H locs 0 0 (MQ below (Qi D (Ky κ) (mw κ η) A Q) args s 0 0 A) (F0 m 32 ls [])) : ∀ (M : Sg) (x1 : Int32) (x2 : Int32) (x3 : Int32) (H : Heap) (locs : List Loc) (ls : Array Slot), vX9_deals_74 K11 K32 Q M x1 x2 x3 → Wd (cN σ) D (Ky κ) A s (mw κ η M) H locs → lv_has ls 4 [(0, .ref (η 0)), (1, .int x1), (2, .int x2), (3, .int x3)] → W p l e rmX9_deals s m args below meth c H locs 0 0 (MQ below (Qi D (Ky κ) (mw κ η) A Q) args s 0 0 A) (F0 m 74 ls []) := by
  intro M x1 x2 x3 H locs ls h hw hl
  obtain ⟨x_1, ex_1⟩ : ∃ y : Int32, y = x3 + (1 : Int32) := ⟨_, rfl⟩
  have h := h x_1 ex_1
  refine lv_iinc (v := x_1) (lv' := [(3, .int x_1), (0, .ref (η 0)), (1, .int x1), (2, .int x2)]) X.1 X.2.1 dX9_deals_74 hl (k := 3) rfl (by rw [ex_1]; rfl) (by decide) rfl (fun ls hl => ?_)
  refine lv_goto (tgt := 32) X.1 X.2.1 dX9_deals_77 (by decide) ?_
  exact hK32 M x1 x2 x_1 _ _ _ h hw (lv_sub hl [1, 2, 3, 0] rfl)
def vX9_deals_32 (K11 : Sg → Int32 → Int32 → Prop) (Q : Sg → Int32 → Prop) : Nat → Sg → Int32 → Int32 → Int32 → Prop
  | 0, _, _, _, _ => False
  | f32_ + 1, M, x1, x2, x3 => (((2880 : Int32) ≤ x3 → (vX9_deals_80 K11 Q M x1)) ∧ (¬ (2880 : Int32) ≤ x3 → (vp_in x2 60 ∧ ((¬ (gA M 38 x2.toNatClampNeg) = 0 → (vX9_deals_80 K11 Q M x1)) ∧ ((gA M 38 x2.toNatClampNeg) = 0 → (wX9_isFree M x3 (fun M_1 r_2 => ((r_2 = 0 → (vX9_deals_74 K11 (vX9_deals_32 K11 Q f32_) Q M_1 x1 x2 x3)) ∧ (¬ r_2 = 0 → (wX9_suits M_1 x3 x2 (fun M_3 r_4 => ((r_4 = 0 → (vX9_deals_74 K11 (vX9_deals_32 K11 Q f32_) Q M_3 x1 x2 x3)) ∧ (¬ r_4 = 0 → (wX9_books M_3 x2 x3 (fun M_5 => (∀ (x_7 : Int32), x_7 = x1 + (1 : Int32) → (vX9_deals_74 K11 (vX9_deals_32 K11 Q f32_) Q M_5 x_7 x2 x3)))))))))))))))))
set_option maxHeartbeats 4000000 in
set_option maxRecDepth 100000 in
theorem bX9_deals_32 {p : Program} {l : Launch} {e : Env} {s : State} {m : MethodId} {args : Array Value} {below : List Frame} {meth : Method} {c : Code} {D : va_G} {κ : Nat → ClassId} {η : Nat → Nat} {σ : (Nat → Nat) × (Nat → Nat)} {A : Nat → Prop} {Q : Sg → Int32 → Prop} {K11 : Sg → Int32 → Int32 → Prop} (X : CallFix p m c cX9_deals 4 s args wsX9_deals RX9) (hr : meth.sig.returnType = (some .int)) (hlk : meth.locks = false) (hK11 : ∀ (M : Sg) (x1 : Int32) (x2 : Int32) (H : Heap) (locs : List Loc) (ls : Array Slot), K11 M x1 x2 → Wd (cN σ) D (Ky κ) A s (mw κ η M) H locs → lv_has ls 4 [(0, .ref (η 0)), (1, .int x1), (2, .int x2)] → W p l e rmX9_deals s m args below meth c H locs 0 0 (MQ below (Qi D (Ky κ) (mw κ η) A Q) args s 0 0 A) (F0 m 11 ls [])) : ∀ (f_ : Nat) (M : Sg) (x1 : Int32) (x2 : Int32) (x3 : Int32) (H : Heap) (locs : List Loc) (ls : Array Slot), vX9_deals_32 K11 Q f_ M x1 x2 x3 → Wd (cN σ) D (Ky κ) A s (mw κ η M) H locs → lv_has ls 4 [(0, .ref (η 0)), (1, .int x1), (2, .int x2), (3, .int x3)] → W p l e rmX9_deals s m args below meth c H locs 0 0 (MQ below (Qi D (Ky κ) (mw κ η) A Q) args s 0 0 A) (F0 m 32 ls []) := by
  intro f_
  induction f_ with
  | zero => intro M x1 x2 x3 H locs ls h; exact h.elim
  | succ f_ hK32 =>
    intro M x1 x2 x3 H locs ls h hw hl
    refine lv_iload_n X.1 X.2.1 dX9_deals_32 rfl (lv_at hl 3 rfl) ?_
    refine lv_sipush (v := (2880 : Int32)) X.1 X.2.1 dX9_deals_33 (by decide) ?_
    obtain ⟨ht_, hf_⟩ := h
    refine lv_icmp_ge (tgt := 80) X.1 X.2.1 dX9_deals_36 (by decide) (fun c_ => ?_) (fun c_ => ?_)
    · have h := ht_ c_
      exact bX9_deals_80 X hr hlk hK11 M x1 _ _ _ h hw (lv_sub hl [0, 1] rfl)
    · have h := hf_ c_
      refine lv_aload_n X.1 X.2.1 dX9_deals_39 rfl (lv_at hl 0 rfl) ?_
      refine r_gf X inX9_deals_X9 hw 0 rfl rfl 38 (by decide) (X.2.2.2.2 (.fieldLink RX9 119 "TestHallModel" "state" "[I") (by decide +kernel)) rfl rfl dX9_deals_40 ?_
      refine lv_iload_n X.1 X.2.1 dX9_deals_43 rfl (lv_at hl 2 rfl) ?_
      obtain ⟨hi_, h⟩ := h
      refine r_ial X hw 27 0 rfl rfl hi_ dX9_deals_44 ?_
      obtain ⟨ht_, hf_⟩ := h
      refine lv_if_ne (tgt := 80) X.1 X.2.1 dX9_deals_45 (by decide) (fun c_ => ?_) (fun c_ => ?_)
      · have h := ht_ c_
        exact bX9_deals_80 X hr hlk hK11 M x1 _ _ _ h hw (lv_sub hl [0, 1] rfl)
      · have h := hf_ c_
        refine lv_aload_n X.1 X.2.1 dX9_deals_48 rfl (lv_at hl 0 rfl) ?_
        refine lv_iload_n X.1 X.2.1 dX9_deals_49 rfl (lv_at hl 3 rfl) ?_
        refine r_Vi (As := [.int x3]) (rest := []) X cN_ok (kX9_isFree h) (cwV 1 X.2.2.2.2 gX9_deals_X9_isFree rfl rfl rfl (by decide +kernel) ⟨Nat.le_of_ble_eq_true rfl, Nat.le_of_ble_eq_true rfl⟩) hw 0 8 rfl rfl rfl hl.1 rfl (Nat.le_of_ble_eq_true rfl) dX9_deals_50 (fun r_2 M_1 H locs h hw => ?_)
        obtain ⟨ht_, hf_⟩ := h
        refine lv_if_eq (tgt := 74) X.1 X.2.1 dX9_deals_53 (by decide) (fun c_ => ?_) (fun c_ => ?_)
        · have h := ht_ c_
          exact bX9_deals_74 X hr hlk hK11 hK32 M_1 x1 x2 x3 _ _ _ h hw (lv_sub hl [0, 1, 2, 3] rfl)
        · have h := hf_ c_
          refine lv_aload_n X.1 X.2.1 dX9_deals_56 rfl (lv_at hl 0 rfl) ?_
          refine lv_iload_n X.1 X.2.1 dX9_deals_57 rfl (lv_at hl 3 rfl) ?_
          refine lv_iload_n X.1 X.2.1 dX9_deals_58 rfl (lv_at hl 2 rfl) ?_
          refine r_Vi (As := [.int x3, .int x2]) (rest := []) X cN_ok (kX9_suits h) (cwV 2 X.2.2.2.2 gX9_deals_X9_suits rfl rfl rfl (by decide +kernel) ⟨Nat.le_of_ble_eq_true rfl, Nat.le_of_ble_eq_true rfl⟩) hw 0 8 rfl rfl rfl hl.1 rfl (Nat.le_of_ble_eq_true rfl) dX9_deals_59 (fun r_4 M_3 H locs h hw => ?_)
          obtain ⟨ht_, hf_⟩ := h
          refine lv_if_eq (tgt := 74) X.1 X.2.1 dX9_deals_62 (by decide) (fun c_ => ?_) (fun c_ => ?_)
          · have h := ht_ c_
            exact bX9_deals_74 X hr hlk hK11 hK32 M_3 x1 x2 x3 _ _ _ h hw (lv_sub hl [0, 1, 2, 3] rfl)
          · have h := hf_ c_
            refine lv_aload_n X.1 X.2.1 dX9_deals_65 rfl (lv_at hl 0 rfl) ?_
            refine lv_iload_n X.1 X.2.1 dX9_deals_66 rfl (lv_at hl 2 rfl) ?_
            refine lv_iload_n X.1 X.2.1 dX9_deals_67 rfl (lv_at hl 3 rfl) ?_
            refine r_Vv (As := [.int x2, .int x3]) (rest := []) X cN_ok (kX9_books h) (cwV 2 X.2.2.2.2 gX9_deals_X9_books rfl rfl rfl (by decide +kernel) ⟨Nat.le_of_ble_eq_true rfl, Nat.le_of_ble_eq_true rfl⟩) hw 0 8 rfl rfl rfl hl.1 rfl (Nat.le_of_ble_eq_true rfl) dX9_deals_68 (fun M_5 H locs h hw => ?_)
            obtain ⟨x_7, ex_7⟩ : ∃ y : Int32, y = x1 + (1 : Int32) := ⟨_, rfl⟩
            have h := h x_7 ex_7
            refine lv_iinc (v := x_7) (lv' := [(1, .int x_7), (0, .ref (η 0)), (2, .int x2), (3, .int x3)]) X.1 X.2.1 dX9_deals_71 hl (k := 1) rfl (by rw [ex_7]; rfl) (by decide) rfl (fun ls hl => ?_)
            exact bX9_deals_74 X hr hlk hK11 hK32 M_5 x_7 x2 x3 _ _ _ h hw (lv_sub hl [1, 0, 2, 3] rfl)
def vX9_deals_11 (Q : Sg → Int32 → Prop) : Nat → Sg → Int32 → Int32 → Prop
  | 0, _, _, _ => False
  | f11_ + 1, M, x1, x2 => ((x2 < 0 → (Q M x1)) ∧ (¬ x2 < 0 → (vp_in x2 60 ∧ (∀ (M_1 : Sg), M_1 = sA M 44 x2.toNatClampNeg (vp_nar .boolean (0 : Int32)) → (∀ (x_2 : Int32), x_2 = ((48 : Int32) * ((gI M_1 24) + (1 : Int32))) → (∃ g32_ : Nat, vX9_deals_32 (vX9_deals_11 Q f11_) Q g32_ M_1 x1 x2 x_2))))))
set_option maxHeartbeats 4000000 in
set_option maxRecDepth 100000 in
theorem bX9_deals_11 {p : Program} {l : Launch} {e : Env} {s : State} {m : MethodId} {args : Array Value} {below : List Frame} {meth : Method} {c : Code} {D : va_G} {κ : Nat → ClassId} {η : Nat → Nat} {σ : (Nat → Nat) × (Nat → Nat)} {A : Nat → Prop} {Q : Sg → Int32 → Prop} (X : CallFix p m c cX9_deals 4 s args wsX9_deals RX9) (hr : meth.sig.returnType = (some .int)) (hlk : meth.locks = false) : ∀ (f_ : Nat) (M : Sg) (x1 : Int32) (x2 : Int32) (H : Heap) (locs : List Loc) (ls : Array Slot), vX9_deals_11 Q f_ M x1 x2 → Wd (cN σ) D (Ky κ) A s (mw κ η M) H locs → lv_has ls 4 [(0, .ref (η 0)), (1, .int x1), (2, .int x2)] → W p l e rmX9_deals s m args below meth c H locs 0 0 (MQ below (Qi D (Ky κ) (mw κ η) A Q) args s 0 0 A) (F0 m 11 ls []) := by
  intro f_
  induction f_ with
  | zero => intro M x1 x2 H locs ls h; exact h.elim
  | succ f_ hK11 =>
    intro M x1 x2 H locs ls h hw hl
    refine lv_iload_n X.1 X.2.1 dX9_deals_11 rfl (lv_at hl 2 rfl) ?_
    obtain ⟨ht_, hf_⟩ := h
    refine lv_if_lt (tgt := 88) X.1 X.2.1 dX9_deals_12 (by decide) (fun c_ => ?_) (fun c_ => ?_)
    · have h := ht_ c_
      refine lv_iload_n X.1 X.2.1 dX9_deals_88 rfl (lv_at hl 1 rfl) ?_
      exact r_ret X hr hlk hw h dX9_deals_89
    · have h := hf_ c_
      refine lv_aload_n X.1 X.2.1 dX9_deals_15 rfl (lv_at hl 0 rfl) ?_
      refine r_gf X inX9_deals_X9 hw 0 rfl rfl 44 (by decide) (X.2.2.2.2 (.fieldLink RX9 134 "TestHallModel" "isDealt" "[Z") (by decide +kernel)) rfl rfl dX9_deals_16 ?_
      refine lv_iload_n X.1 X.2.1 dX9_deals_19 rfl (lv_at hl 2 rfl) ?_
      refine lv_iconst (v := (0 : Int32)) X.1 X.2.1 dX9_deals_20 (by decide) ?_
      obtain ⟨hi_, h⟩ := h
      refine r_zas (w' := mw κ η (sA M 44 x2.toNatClampNeg (vp_nar .boolean (0 : Int32)))) X hw 32 1 rfl rfl hi_ rfl dX9_deals_21 (fun H locs hw => ?_)
      obtain ⟨M_1, eM_1⟩ : ∃ y : Sg, y = sA M 44 x2.toNatClampNeg (vp_nar .boolean (0 : Int32)) := ⟨_, rfl⟩
      rw [← eM_1] at hw
      have h := h M_1 eM_1
      refine lv_bipush (v := (48 : Int32)) X.1 X.2.1 dX9_deals_22 (by decide) ?_
      refine lv_aload_n X.1 X.2.1 dX9_deals_24 rfl (lv_at hl 0 rfl) ?_
      refine r_gf X inX9_deals_X9 hw 0 rfl rfl 24 (by decide) (X.2.2.2.2 (.fieldLink RX9 259 "TestHallModel" "now" "I") (by decide +kernel)) rfl rfl dX9_deals_25 ?_
      refine lv_iconst (v := (1 : Int32)) X.1 X.2.1 dX9_deals_28 (by decide) ?_
      refine lv_iadd X.1 X.2.1 dX9_deals_29 ?_
      refine lv_imul X.1 X.2.1 dX9_deals_30 ?_
      refine lv_topi (fun x_2 ex_2 => ?_)
      have h := h x_2 ex_2
      refine lv_istore_n (lv' := [(3, .int x_2), (0, .ref (η 0)), (1, .int x1), (2, .int x2)]) X.1 X.2.1 dX9_deals_31 rfl hl (by decide) rfl (fun ls hl => ?_)
      obtain ⟨f_, h⟩ := h
      exact bX9_deals_32 X hr hlk hK11 f_ M_1 x1 x2 x_2 _ _ _ h hw (lv_sub hl [1, 2, 3, 0] rfl)
def wX9_deals (M : Sg) (Q : Sg → Int32 → Prop) : Prop := (wX9_findRanks M (fun M_1 => (wX9_firstDealt M_1 (fun M_3 r_4 => (∃ g11_ : Nat, vX9_deals_11 Q g11_ M_3 (0 : Int32) r_4)))))
set_option maxHeartbeats 4000000 in
set_option maxRecDepth 100000 in
theorem kX9_deals {l : Launch} {D : va_G} {κ : Nat → ClassId} {η : Nat → Nat} {σ : (Nat → Nat) × (Nat → Nat)} {M : Sg} {Q : Sg → Int32 → Prop} (h : wX9_deals M Q) : Ki (cN σ) D (Ky κ) (mw κ η) l yX9_deals wsX9_deals rmX9_deals [.ref (η 0)] M Q := by
  refine ofW_g (Qc := fun A => Qi D (Ky κ) (mw κ η) A Q) (cc := cX9_deals) (maxL := 4) (ret := (some .int)) (by decide) rfl (Nat.le_of_ble_eq_true rfl) ?_
  intro p e s m args below meth c A ls X hr hlk hw hl
  have hl : lv_has ls 4 [(0, .ref (η 0))] := hl
  refine lv_aload_n X.1 X.2.1 dX9_deals_0 rfl (lv_at hl 0 rfl) ?_
  refine r_Vv (As := []) (rest := []) X cN_ok (kX9_findRanks h) (cwV 0 X.2.2.2.2 gX9_deals_X9_findRanks rfl rfl rfl (by decide +kernel) ⟨Nat.le_of_ble_eq_true rfl, Nat.le_of_ble_eq_true rfl⟩) hw 0 8 rfl rfl rfl hl.1 rfl (Nat.le_of_ble_eq_true rfl) dX9_deals_1 (fun M_1 H locs h hw => ?_)
  refine lv_iconst (v := (0 : Int32)) X.1 X.2.1 dX9_deals_4 (by decide) ?_
  refine lv_istore_n (lv' := [(1, .int (0 : Int32)), (0, .ref (η 0))]) X.1 X.2.1 dX9_deals_5 rfl hl (by decide) rfl (fun ls hl => ?_)
  refine lv_aload_n X.1 X.2.1 dX9_deals_6 rfl (lv_at hl 1 rfl) ?_
  refine r_Vi (As := []) (rest := []) X cN_ok (kX9_firstDealt h) (cwV 0 X.2.2.2.2 gX9_deals_X9_firstDealt rfl rfl rfl (by decide +kernel) ⟨Nat.le_of_ble_eq_true rfl, Nat.le_of_ble_eq_true rfl⟩) hw 0 8 rfl rfl rfl hl.1 rfl (Nat.le_of_ble_eq_true rfl) dX9_deals_7 (fun r_4 M_3 H locs h hw => ?_)
  refine lv_istore_n (lv' := [(2, .int r_4), (1, .int (0 : Int32)), (0, .ref (η 0))]) X.1 X.2.1 dX9_deals_10 rfl hl (by decide) rfl (fun ls hl => ?_)
  obtain ⟨f_, h⟩ := h
  exact bX9_deals_11 X hr hlk f_ M_3 (0 : Int32) r_4 _ _ _ h hw (lv_sub hl [2, 1, 0] rfl)

theorem inX9_waits_X9 : ∀ w ∈ wsX90, w ∈ wsX9_waits := fun w h => List.mem_cons_of_mem _ (List.mem_append_right _ h)
abbrev rmX9_waits : Room := { frames := 0, cells := 0, slots := 0, locals := 0 }
def wX9_waits (M : Sg) (a1 : Int32) (Q : Sg → Prop) : Prop := (vp_in a1 60 ∧ (∀ (M_1 : Sg), M_1 = sA M 38 a1.toNatClampNeg (0 : Int32) → (vp_in a1 60 ∧ (∀ (M_2 : Sg), M_2 = sA M_1 39 a1.toNatClampNeg (-1 : Int32) → (Q M_2)))))
set_option maxHeartbeats 4000000 in
set_option maxRecDepth 100000 in
theorem kX9_waits {l : Launch} {D : va_G} {κ : Nat → ClassId} {η : Nat → Nat} {σ : (Nat → Nat) × (Nat → Nat)} {M : Sg} {a1 : Int32} {Q : Sg → Prop} (h : wX9_waits M a1 Q) : Kv (cN σ) D (Ky κ) (mw κ η) l yX9_waits wsX9_waits rmX9_waits [.ref (η 0), .int a1] M Q := by
  refine ofW_g (Qc := fun A => Qv D (Ky κ) (mw κ η) A Q) (cc := cX9_waits) (maxL := 2) (ret := none) (by decide) rfl (Nat.le_of_ble_eq_true rfl) ?_
  intro p e s m args below meth c A ls X hr hlk hw hl
  have hl : lv_has ls 2 [(0, .ref (η 0)), (1, .int a1)] := hl
  refine lv_aload_n X.1 X.2.1 dX9_waits_0 rfl (lv_at hl 0 rfl) ?_
  refine r_gf X inX9_waits_X9 hw 0 rfl rfl 38 (by decide) (X.2.2.2.2 (.fieldLink RX9 119 "TestHallModel" "state" "[I") (by decide +kernel)) rfl rfl dX9_waits_1 ?_
  refine lv_iload_n X.1 X.2.1 dX9_waits_4 rfl (lv_at hl 1 rfl) ?_
  refine lv_iconst (v := (0 : Int32)) X.1 X.2.1 dX9_waits_5 (by decide) ?_
  obtain ⟨hi_, h⟩ := h
  refine r_ias (w' := mw κ η (sA M 38 a1.toNatClampNeg (0 : Int32))) X hw 27 0 rfl rfl hi_ rfl dX9_waits_6 (fun H locs hw => ?_)
  obtain ⟨M_1, eM_1⟩ : ∃ y : Sg, y = sA M 38 a1.toNatClampNeg (0 : Int32) := ⟨_, rfl⟩
  rw [← eM_1] at hw
  have h := h M_1 eM_1
  refine lv_aload_n X.1 X.2.1 dX9_waits_7 rfl (lv_at hl 0 rfl) ?_
  refine r_gf X inX9_waits_X9 hw 0 rfl rfl 39 (by decide) (X.2.2.2.2 (.fieldLink RX9 122 "TestHallModel" "slot" "[I") (by decide +kernel)) rfl rfl dX9_waits_8 ?_
  refine lv_iload_n X.1 X.2.1 dX9_waits_11 rfl (lv_at hl 1 rfl) ?_
  refine lv_iconst (v := (-1 : Int32)) X.1 X.2.1 dX9_waits_12 (by decide) ?_
  obtain ⟨hi_, h⟩ := h
  refine r_ias (w' := mw κ η (sA M_1 39 a1.toNatClampNeg (-1 : Int32))) X hw 28 0 rfl rfl hi_ rfl dX9_waits_13 (fun H locs hw => ?_)
  obtain ⟨M_2, eM_2⟩ : ∃ y : Sg, y = sA M_1 39 a1.toNatClampNeg (-1 : Int32) := ⟨_, rfl⟩
  rw [← eM_2] at hw
  have h := h M_2 eM_2
  exact r_vret X hr hlk hw h dX9_waits_14
