def rmX9_goes (d : Nat) : Room := { frames := 1 * d + 2, cells := 0, slots := 0, locals := 30 * d + 60 }
def rmX3_walk (d : Nat) : Room := { frames := 1 * d + 4, cells := 0, slots := 0, locals := 40 * d + 100 }
def rmX6_readCondition (d : Nat) : Room := { frames := 4 * d + 4, cells := 0, slots := 0, locals := 100 * d + 100 }
def rmX6_readPart (d : Nat) : Room := { frames := 4 * d + 5, cells := 0, slots := 0, locals := 100 * d + 125 }
def rmX6_readSum (d : Nat) : Room := { frames := 4 * d + 6, cells := 0, slots := 0, locals := 100 * d + 150 }
def rmX6_readTest (d : Nat) : Room := { frames := 4 * d + 7, cells := 0, slots := 0, locals := 100 * d + 175 }

theorem inX9_thrown_X9 : ∀ w ∈ wsX90, w ∈ wsX9_thrown := fun w h => List.mem_cons_of_mem _ (List.mem_append_right _ h)
abbrev rmX9_thrown : Room := { frames := 0, cells := 0, slots := 0, locals := 0 }
def wX9_thrown (M : Sg) (Q : Sg → Int32 → Prop) : Prop := (Q M (gI M 0))
set_option maxHeartbeats 4000000 in
set_option maxRecDepth 100000 in
theorem kX9_thrown {l : Launch} {D : va_G} {κ : Nat → ClassId} {η : Nat → Nat} {σ : (Nat → Nat) × (Nat → Nat)} {M : Sg} {Q : Sg → Int32 → Prop} (h : wX9_thrown M Q) : Ki (cN σ) D (Ky κ) (mw κ η) l yX9_thrown wsX9_thrown rmX9_thrown [.ref (η 0)] M Q := by
  refine ofW_g (Qc := fun A => Qi D (Ky κ) (mw κ η) A Q) (cc := cX9_thrown) (maxL := 1) (ret := (some .int)) (by decide) rfl (Nat.le_of_ble_eq_true rfl) ?_
  intro p e s m args below meth c A ls X hr hlk hw hl
  have hl : lv_has ls 1 [(0, .ref (η 0))] := hl
  refine lv_aload_n X.1 X.2.1 dX9_thrown_0 rfl (lv_at hl 0 rfl) ?_
  refine r_gf X inX9_thrown_X9 hw 0 rfl rfl 0 (by decide) (X.2.2.2.2 (.fieldLink RX9 1 "TestHallModel" "thrown" "I") (by decide +kernel)) rfl rfl dX9_thrown_1 ?_
  exact r_ret X hr hlk hw h dX9_thrown_4

theorem inX9_lay_X9 : ∀ w ∈ wsX90, w ∈ wsX9_lay := fun w h => List.mem_cons_of_mem _ (List.mem_append_right _ h)
abbrev rmX9_lay : Room := { frames := 0, cells := 0, slots := 0, locals := 0 }
def vX9_lay_69 (K3 : Sg → Int64 → Int32 → Prop) (Q : Sg → Prop) (M : Sg) (x1 : Int64) (x3 : Int32) : Prop := (∀ (x_1 : Int32), x_1 = x3 + (-8 : Int32) → (K3 M x1 x_1))
set_option maxHeartbeats 4000000 in
set_option maxRecDepth 100000 in
theorem bX9_lay_69 {p : Program} {l : Launch} {e : Env} {s : State} {m : MethodId} {args : Array Value} {below : List Frame} {meth : Method} {c : Code} {D : va_G} {κ : Nat → ClassId} {η : Nat → Nat} {σ : (Nat → Nat) × (Nat → Nat)} {A : Nat → Prop} {Q : Sg → Prop} {K3 : Sg → Int64 → Int32 → Prop} (X : CallFix p m c cX9_lay 5 s args wsX9_lay RX9) (hr : meth.sig.returnType = none) (hlk : meth.locks = false) (hK3 : ∀ (M : Sg) (x1 : Int64) (x3 : Int32) (H : Heap) (locs : List Loc) (ls : Array Slot), K3 M x1 x3 → Wd (cN σ) D (Ky κ) A s (mw κ η M) H locs → lv_has ls 5 [(0, .ref (η 0)), (1, .long x1), (3, .int x3)] → W p l e rmX9_lay s m args below meth c H locs 0 0 (MQ below (Qv D (Ky κ) (mw κ η) A Q) args s 0 0 A) (F0 m 3 ls [])) : ∀ (M : Sg) (x1 : Int64) (x3 : Int32) (H : Heap) (locs : List Loc) (ls : Array Slot), vX9_lay_69 K3 Q M x1 x3 → Wd (cN σ) D (Ky κ) A s (mw κ η M) H locs → lv_has ls 5 [(0, .ref (η 0)), (1, .long x1), (3, .int x3)] → W p l e rmX9_lay s m args below meth c H locs 0 0 (MQ below (Qv D (Ky κ) (mw κ η) A Q) args s 0 0 A) (F0 m 69 ls []) := by
  intro M x1 x3 H locs ls h hw hl
  obtain ⟨x_1, ex_1⟩ : ∃ y : Int32, y = x3 + (-8 : Int32) := ⟨_, rfl⟩
  have h := h x_1 ex_1
  refine lv_iinc (v := x_1) (lv' := [(3, .int x_1), (0, .ref (η 0)), (1, .long x1)]) X.1 X.2.1 dX9_lay_69 hl (k := 2) rfl (by rw [ex_1]; rfl) (by decide) rfl (fun ls hl => ?_)
  refine lv_goto (tgt := 3) X.1 X.2.1 dX9_lay_72 (by decide) ?_
  exact hK3 M x1 x_1 _ _ _ h hw (lv_sub hl [1, 2, 0] rfl)
def vX9_lay_38 (K3 : Sg → Int64 → Int32 → Prop) (Q : Sg → Prop) (M : Sg) (x1 : Int64) (x3 : Int32) (x4 : Int32) : Prop := (((600 : Int32) ≤ (gI M 2) → (vX9_lay_69 K3 Q M x1 x3)) ∧ (¬ (600 : Int32) ≤ (gI M 2) → (vp_in (gI M 2) 600 ∧ (∀ (M_1 : Sg), M_1 = sA M 1 (gI M 2).toNatClampNeg x4 → (∀ (M_2 : Sg), M_2 = sI M_1 2 ((gI M_1 2) + (1 : Int32)) → (vX9_lay_69 K3 Q M_2 x1 x3))))))
set_option maxHeartbeats 4000000 in
set_option maxRecDepth 100000 in
theorem bX9_lay_38 {p : Program} {l : Launch} {e : Env} {s : State} {m : MethodId} {args : Array Value} {below : List Frame} {meth : Method} {c : Code} {D : va_G} {κ : Nat → ClassId} {η : Nat → Nat} {σ : (Nat → Nat) × (Nat → Nat)} {A : Nat → Prop} {Q : Sg → Prop} {K3 : Sg → Int64 → Int32 → Prop} (X : CallFix p m c cX9_lay 5 s args wsX9_lay RX9) (hr : meth.sig.returnType = none) (hlk : meth.locks = false) (hK3 : ∀ (M : Sg) (x1 : Int64) (x3 : Int32) (H : Heap) (locs : List Loc) (ls : Array Slot), K3 M x1 x3 → Wd (cN σ) D (Ky κ) A s (mw κ η M) H locs → lv_has ls 5 [(0, .ref (η 0)), (1, .long x1), (3, .int x3)] → W p l e rmX9_lay s m args below meth c H locs 0 0 (MQ below (Qv D (Ky κ) (mw κ η) A Q) args s 0 0 A) (F0 m 3 ls [])) : ∀ (M : Sg) (x1 : Int64) (x3 : Int32) (x4 : Int32) (H : Heap) (locs : List Loc) (ls : Array Slot), vX9_lay_38 K3 Q M x1 x3 x4 → Wd (cN σ) D (Ky κ) A s (mw κ η M) H locs → lv_has ls 5 [(0, .ref (η 0)), (1, .long x1), (3, .int x3), (4, .int x4)] → W p l e rmX9_lay s m args below meth c H locs 0 0 (MQ below (Qv D (Ky κ) (mw κ η) A Q) args s 0 0 A) (F0 m 38 ls []) := by
  intro M x1 x3 x4 H locs ls h hw hl
  refine lv_aload_n X.1 X.2.1 dX9_lay_38 rfl (lv_at hl 0 rfl) ?_
  refine r_gf X inX9_lay_X9 hw 0 rfl rfl 2 (by decide) (X.2.2.2.2 (.fieldLink RX9 11 "TestHallModel" "taped" "I") (by decide +kernel)) rfl rfl dX9_lay_39 ?_
  refine lv_sipush (v := (600 : Int32)) X.1 X.2.1 dX9_lay_42 (by decide) ?_
  obtain ⟨ht_, hf_⟩ := h
  refine lv_icmp_ge (tgt := 69) X.1 X.2.1 dX9_lay_45 (by decide) (fun c_ => ?_) (fun c_ => ?_)
  · have h := ht_ c_
    exact bX9_lay_69 X hr hlk hK3 M x1 x3 _ _ _ h hw (lv_sub hl [0, 1, 2] rfl)
  · have h := hf_ c_
    refine lv_aload_n X.1 X.2.1 dX9_lay_48 rfl (lv_at hl 0 rfl) ?_
    refine r_gf X inX9_lay_X9 hw 0 rfl rfl 1 (by decide) (X.2.2.2.2 (.fieldLink RX9 14 "TestHallModel" "tape" "[I") (by decide +kernel)) rfl rfl dX9_lay_49 ?_
    refine lv_aload_n X.1 X.2.1 dX9_lay_52 rfl (lv_at hl 0 rfl) ?_
    refine r_gf X inX9_lay_X9 hw 0 rfl rfl 2 (by decide) (X.2.2.2.2 (.fieldLink RX9 11 "TestHallModel" "taped" "I") (by decide +kernel)) rfl rfl dX9_lay_53 ?_
    refine lv_iload X.1 X.2.1 dX9_lay_56 (lv_at hl 3 rfl) ?_
    obtain ⟨hi_, h⟩ := h
    refine r_ias (w' := mw κ η (sA M 1 (gI M 2).toNatClampNeg x4)) X hw 1 0 rfl rfl hi_ rfl dX9_lay_58 (fun H locs hw => ?_)
    obtain ⟨M_1, eM_1⟩ : ∃ y : Sg, y = sA M 1 (gI M 2).toNatClampNeg x4 := ⟨_, rfl⟩
    rw [← eM_1] at hw
    have h := h M_1 eM_1
    refine lv_aload_n X.1 X.2.1 dX9_lay_59 rfl (lv_at hl 0 rfl) ?_
    refine lv_dup X.1 X.2.1 dX9_lay_60 rfl ?_
    refine r_gf X inX9_lay_X9 hw 0 rfl rfl 2 (by decide) (X.2.2.2.2 (.fieldLink RX9 11 "TestHallModel" "taped" "I") (by decide +kernel)) rfl rfl dX9_lay_61 ?_
    refine lv_iconst (v := (1 : Int32)) X.1 X.2.1 dX9_lay_64 (by decide) ?_
    refine lv_iadd X.1 X.2.1 dX9_lay_65 ?_
    refine r_pf (ty := .int) (w' := mw κ η (sI M_1 2 ((gI M_1 2) + (1 : Int32)))) X inX9_lay_X9 tyX9_ok nmX9 hw 0 rfl rfl 2 (by decide) (X.2.2.2.2 (.fieldLink RX9 11 "TestHallModel" "taped" "I") (by decide +kernel)) rfl rfl (by decide +kernel) rfl rfl (Nat.le_of_ble_eq_true rfl) rfl dX9_lay_66 (fun H locs hw => ?_)
    obtain ⟨M_2, eM_2⟩ : ∃ y : Sg, y = sI M_1 2 ((gI M_1 2) + (1 : Int32)) := ⟨_, rfl⟩
    rw [← eM_2] at hw
    have h := h M_2 eM_2
    exact bX9_lay_69 X hr hlk hK3 M_2 x1 x3 _ _ _ h hw (lv_sub hl [0, 1, 2] rfl)
def vX9_lay_3 (Q : Sg → Prop) : Nat → Sg → Int64 → Int32 → Prop
  | 0, _, _, _ => False
  | f3_ + 1, M, x1, x3 => ((x3 < 0 → (Q M)) ∧ (¬ x3 < 0 → (∀ (x_1 : Int32), x_1 = ((x1 >>> (x3.toInt64 &&& 63)).toInt32 &&& (255 : Int32)) → ((x_1 = (10 : Int32) → (vX9_lay_38 (vX9_lay_3 Q f3_) Q M x1 x3 x_1)) ∧ (¬ x_1 = (10 : Int32) → ((x_1 < (32 : Int32) → (vX9_lay_69 (vX9_lay_3 Q f3_) Q M x1 x3)) ∧ (¬ x_1 < (32 : Int32) → (((126 : Int32) < x_1 → (vX9_lay_69 (vX9_lay_3 Q f3_) Q M x1 x3)) ∧ (¬ (126 : Int32) < x_1 → (vX9_lay_38 (vX9_lay_3 Q f3_) Q M x1 x3 x_1))))))))))
set_option maxHeartbeats 4000000 in
set_option maxRecDepth 100000 in
theorem bX9_lay_3 {p : Program} {l : Launch} {e : Env} {s : State} {m : MethodId} {args : Array Value} {below : List Frame} {meth : Method} {c : Code} {D : va_G} {κ : Nat → ClassId} {η : Nat → Nat} {σ : (Nat → Nat) × (Nat → Nat)} {A : Nat → Prop} {Q : Sg → Prop} (X : CallFix p m c cX9_lay 5 s args wsX9_lay RX9) (hr : meth.sig.returnType = none) (hlk : meth.locks = false) : ∀ (f_ : Nat) (M : Sg) (x1 : Int64) (x3 : Int32) (H : Heap) (locs : List Loc) (ls : Array Slot), vX9_lay_3 Q f_ M x1 x3 → Wd (cN σ) D (Ky κ) A s (mw κ η M) H locs → lv_has ls 5 [(0, .ref (η 0)), (1, .long x1), (3, .int x3)] → W p l e rmX9_lay s m args below meth c H locs 0 0 (MQ below (Qv D (Ky κ) (mw κ η) A Q) args s 0 0 A) (F0 m 3 ls []) := by
  intro f_
  induction f_ with
  | zero => intro M x1 x3 H locs ls h; exact h.elim
  | succ f_ hK3 =>
    intro M x1 x3 H locs ls h hw hl
    refine lv_iload_n X.1 X.2.1 dX9_lay_3 rfl (lv_at hl 2 rfl) ?_
    obtain ⟨ht_, hf_⟩ := h
    refine lv_if_lt (tgt := 75) X.1 X.2.1 dX9_lay_4 (by decide) (fun c_ => ?_) (fun c_ => ?_)
    · have h := ht_ c_
      exact r_vret X hr hlk hw h dX9_lay_75
    · have h := hf_ c_
      refine lv_lload_n X.1 X.2.1 dX9_lay_7 rfl (lv_at hl 1 rfl) ?_
      refine lv_iload_n X.1 X.2.1 dX9_lay_8 rfl (lv_at hl 2 rfl) ?_
      refine lv_lshr (v := (x1 >>> (x3.toInt64 &&& 63))) X.1 X.2.1 dX9_lay_9 rfl ?_
      refine lv_l2i (v := (x1 >>> (x3.toInt64 &&& 63)).toInt32) X.1 X.2.1 dX9_lay_10 rfl ?_
      refine lv_sipush (v := (255 : Int32)) X.1 X.2.1 dX9_lay_11 (by decide) ?_
      refine lv_iand X.1 X.2.1 dX9_lay_14 ?_
      refine lv_topi (fun x_1 ex_1 => ?_)
      have h := h x_1 ex_1
      refine lv_istore (lv' := [(4, .int x_1), (0, .ref (η 0)), (1, .long x1), (3, .int x3)]) X.1 X.2.1 dX9_lay_15 hl (by decide) rfl (fun ls hl => ?_)
      refine lv_iload X.1 X.2.1 dX9_lay_17 (lv_at hl 0 rfl) ?_
      refine lv_bipush (v := (10 : Int32)) X.1 X.2.1 dX9_lay_19 (by decide) ?_
      obtain ⟨ht_, hf_⟩ := h
      refine lv_icmp_eq (tgt := 38) X.1 X.2.1 dX9_lay_21 (by decide) (fun c_ => ?_) (fun c_ => ?_)
      · have h := ht_ c_
        exact bX9_lay_38 X hr hlk hK3 M x1 x3 x_1 _ _ _ h hw (lv_sub hl [1, 2, 3, 0] rfl)
      · have h := hf_ c_
        refine lv_iload X.1 X.2.1 dX9_lay_24 (lv_at hl 0 rfl) ?_
        refine lv_bipush (v := (32 : Int32)) X.1 X.2.1 dX9_lay_26 (by decide) ?_
        obtain ⟨ht_, hf_⟩ := h
        refine lv_icmp_lt (tgt := 69) X.1 X.2.1 dX9_lay_28 (by decide) (fun c_ => ?_) (fun c_ => ?_)
        · have h := ht_ c_
          exact bX9_lay_69 X hr hlk hK3 M x1 x3 _ _ _ h hw (lv_sub hl [1, 2, 3] rfl)
        · have h := hf_ c_
          refine lv_iload X.1 X.2.1 dX9_lay_31 (lv_at hl 0 rfl) ?_
          refine lv_bipush (v := (126 : Int32)) X.1 X.2.1 dX9_lay_33 (by decide) ?_
          obtain ⟨ht_, hf_⟩ := h
          refine lv_icmp_gt (tgt := 69) X.1 X.2.1 dX9_lay_35 (by decide) (fun c_ => ?_) (fun c_ => ?_)
          · have h := ht_ c_
            exact bX9_lay_69 X hr hlk hK3 M x1 x3 _ _ _ h hw (lv_sub hl [1, 2, 3] rfl)
          · have h := hf_ c_
            exact bX9_lay_38 X hr hlk hK3 M x1 x3 x_1 _ _ _ h hw (lv_sub hl [1, 2, 3, 0] rfl)
def wX9_lay (M : Sg) (a1 : Int64) (Q : Sg → Prop) : Prop := (∃ g3_ : Nat, vX9_lay_3 Q g3_ M a1 (56 : Int32))
set_option maxHeartbeats 4000000 in
set_option maxRecDepth 100000 in
theorem kX9_lay {l : Launch} {D : va_G} {κ : Nat → ClassId} {η : Nat → Nat} {σ : (Nat → Nat) × (Nat → Nat)} {M : Sg} {a1 : Int64} {Q : Sg → Prop} (h : wX9_lay M a1 Q) : Kv (cN σ) D (Ky κ) (mw κ η) l yX9_lay wsX9_lay rmX9_lay [.ref (η 0), .long a1] M Q := by
  refine ofW_g (Qc := fun A => Qv D (Ky κ) (mw κ η) A Q) (cc := cX9_lay) (maxL := 5) (ret := none) (by decide) rfl (Nat.le_of_ble_eq_true rfl) ?_
  intro p e s m args below meth c A ls X hr hlk hw hl
  have hl : lv_has ls 5 [(0, .ref (η 0)), (1, .long a1)] := hl
  refine lv_bipush (v := (56 : Int32)) X.1 X.2.1 dX9_lay_0 (by decide) ?_
  refine lv_istore_n (lv' := [(3, .int (56 : Int32)), (0, .ref (η 0)), (1, .long a1)]) X.1 X.2.1 dX9_lay_2 rfl hl (by decide) rfl (fun ls hl => ?_)
  obtain ⟨f_, h⟩ := h
  exact bX9_lay_3 X hr hlk f_ M a1 (56 : Int32) _ _ _ h hw (lv_sub hl [1, 2, 0] rfl)

theorem inX9_feed_X9 : ∀ w ∈ wsX90, w ∈ wsX9_feed := fun w h => List.mem_cons_of_mem _ (List.mem_append_right _ h)
abbrev rmX9_feed : Room := { frames := 1, cells := 0, slots := 0, locals := 24 }
def wX9_feed (M : Sg) (a1 : Int64) (a3 : Int64) (a5 : Int64) (Q : Sg → Int32 → Prop) : Prop := (∀ (M_1 : Sg), M_1 = sI M 0 (0 : Int32) → (wX9_lay M_1 a1 (fun M_2 => (wX9_lay M_2 a3 (fun M_4 => (wX9_lay M_4 a5 (fun M_6 => (Q M_6 (gI M_6 2)))))))))
set_option maxHeartbeats 4000000 in
set_option maxRecDepth 100000 in
theorem kX9_feed {l : Launch} {D : va_G} {κ : Nat → ClassId} {η : Nat → Nat} {σ : (Nat → Nat) × (Nat → Nat)} {M : Sg} {a1 : Int64} {a3 : Int64} {a5 : Int64} {Q : Sg → Int32 → Prop} (h : wX9_feed M a1 a3 a5 Q) : Ki (cN σ) D (Ky κ) (mw κ η) l yX9_feed wsX9_feed rmX9_feed [.ref (η 0), .long a1, .long a3, .long a5] M Q := by
  refine ofW_g (Qc := fun A => Qi D (Ky κ) (mw κ η) A Q) (cc := cX9_feed) (maxL := 7) (ret := (some .int)) (by decide) rfl (Nat.le_of_ble_eq_true rfl) ?_
  intro p e s m args below meth c A ls X hr hlk hw hl
  have hl : lv_has ls 7 [(0, .ref (η 0)), (1, .long a1), (3, .long a3), (5, .long a5)] := hl
  refine lv_aload_n X.1 X.2.1 dX9_feed_0 rfl (lv_at hl 0 rfl) ?_
  refine lv_iconst (v := (0 : Int32)) X.1 X.2.1 dX9_feed_1 (by decide) ?_
  refine r_pf (ty := .int) (w' := mw κ η (sI M 0 (0 : Int32))) X inX9_feed_X9 tyX9_ok nmX9 hw 0 rfl rfl 0 (by decide) (X.2.2.2.2 (.fieldLink RX9 1 "TestHallModel" "thrown" "I") (by decide +kernel)) rfl rfl (by decide +kernel) rfl rfl (Nat.le_of_ble_eq_true rfl) rfl dX9_feed_2 (fun H locs hw => ?_)
  obtain ⟨M_1, eM_1⟩ : ∃ y : Sg, y = sI M 0 (0 : Int32) := ⟨_, rfl⟩
  rw [← eM_1] at hw
  have h := h M_1 eM_1
  refine lv_aload_n X.1 X.2.1 dX9_feed_5 rfl (lv_at hl 0 rfl) ?_
  refine lv_lload_n X.1 X.2.1 dX9_feed_6 rfl (lv_at hl 1 rfl) ?_
  refine r_Vv (As := [.long a1]) (rest := []) X cN_ok (kX9_lay h) (cwV 1 X.2.2.2.2 gX9_feed_X9_lay rfl rfl rfl (by decide +kernel) ⟨Nat.le_of_ble_eq_true rfl, Nat.le_of_ble_eq_true rfl⟩) hw 0 8 rfl rfl rfl hl.1 rfl (Nat.le_of_ble_eq_true rfl) dX9_feed_7 (fun M_2 H locs h hw => ?_)
  refine lv_aload_n X.1 X.2.1 dX9_feed_10 rfl (lv_at hl 0 rfl) ?_
  refine lv_lload_n X.1 X.2.1 dX9_feed_11 rfl (lv_at hl 2 rfl) ?_
  refine r_Vv (As := [.long a3]) (rest := []) X cN_ok (kX9_lay h) (cwV 1 X.2.2.2.2 gX9_feed_X9_lay rfl rfl rfl (by decide +kernel) ⟨Nat.le_of_ble_eq_true rfl, Nat.le_of_ble_eq_true rfl⟩) hw 0 8 rfl rfl rfl hl.1 rfl (Nat.le_of_ble_eq_true rfl) dX9_feed_12 (fun M_4 H locs h hw => ?_)
  refine lv_aload_n X.1 X.2.1 dX9_feed_15 rfl (lv_at hl 0 rfl) ?_
  refine lv_lload X.1 X.2.1 dX9_feed_16 (lv_at hl 3 rfl) ?_
  refine r_Vv (As := [.long a5]) (rest := []) X cN_ok (kX9_lay h) (cwV 1 X.2.2.2.2 gX9_feed_X9_lay rfl rfl rfl (by decide +kernel) ⟨Nat.le_of_ble_eq_true rfl, Nat.le_of_ble_eq_true rfl⟩) hw 0 8 rfl rfl rfl hl.1 rfl (Nat.le_of_ble_eq_true rfl) dX9_feed_18 (fun M_6 H locs h hw => ?_)
  refine lv_aload_n X.1 X.2.1 dX9_feed_21 rfl (lv_at hl 0 rfl) ?_
  refine r_gf X inX9_feed_X9 hw 0 rfl rfl 2 (by decide) (X.2.2.2.2 (.fieldLink RX9 11 "TestHallModel" "taped" "I") (by decide +kernel)) rfl rfl dX9_feed_22 ?_
  exact r_ret X hr hlk hw h dX9_feed_25
