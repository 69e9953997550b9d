theorem inX9_deal_X9 : ∀ w ∈ wsX90, w ∈ wsX9_deal := fun w h => List.mem_cons_of_mem _ (List.mem_append_right _ h)
abbrev rmX9_deal : Room := { frames := 4, cells := 0, slots := 0, locals := 92 }
def vX9_deal_34 (K7 : Sg → Int32 → Prop) (Q : Sg → Int32 → Prop) (M : Sg) (x1 : Int32) (s0 : Int32) (s1 : Int32) : Prop := (vp_in s1 60 ∧ (∀ (M_1 : Sg), M_1 = sA M 44 s1.toNatClampNeg (vp_nar .boolean s0) → (∀ (x_2 : Int32), x_2 = x1 + (1 : Int32) → (K7 M_1 x_2))))
set_option maxHeartbeats 4000000 in
set_option maxRecDepth 100000 in
theorem bX9_deal_34 {p : Program} {l : Launch} {e : Env} {s : State} {m : MethodId} {args : Array Value} {below : List Frame} {meth : Method} {c : Code} {D : va_G} {κ : Nat → ClassId} {η : Nat → Nat} {σ : (Nat → Nat) × (Nat → Nat)} {A : Nat → Prop} {Q : Sg → Int32 → Prop} {K7 : Sg → Int32 → Prop} (X : CallFix p m c cX9_deal 2 s args wsX9_deal RX9) (hr : meth.sig.returnType = (some .int)) (hlk : meth.locks = false) (hK7 : ∀ (M : Sg) (x1 : Int32) (H : Heap) (locs : List Loc) (ls : Array Slot), K7 M x1 → Wd (cN σ) D (Ky κ) A s (mw κ η M) H locs → lv_has ls 2 [(0, .ref (η 0)), (1, .int x1)] → W p l e rmX9_deal s m args below meth c H locs 0 0 (MQ below (Qi D (Ky κ) (mw κ η) A Q) args s 0 0 A) (F0 m 7 ls [])) : ∀ (M : Sg) (x1 : Int32) (s0 : Int32) (s1 : Int32) (H : Heap) (locs : List Loc) (ls : Array Slot), vX9_deal_34 K7 Q M x1 s0 s1 → Wd (cN σ) D (Ky κ) A s (mw κ η M) H locs → lv_has ls 2 [(0, .ref (η 0)), (1, .int x1)] → W p l e rmX9_deal s m args below meth c H locs 0 0 (MQ below (Qi D (Ky κ) (mw κ η) A Q) args s 0 0 A) (F0 m 34 ls [.int s0, .int s1, .ref (η 32)]) := by
  intro M x1 s0 s1 H locs ls h hw hl
  obtain ⟨hi_, h⟩ := h
  refine r_zas (w' := mw κ η (sA M 44 s1.toNatClampNeg (vp_nar .boolean s0))) X hw 32 1 rfl rfl hi_ rfl dX9_deal_34 (fun H locs hw => ?_)
  obtain ⟨M_1, eM_1⟩ : ∃ y : Sg, y = sA M 44 s1.toNatClampNeg (vp_nar .boolean s0) := ⟨_, rfl⟩
  rw [← eM_1] at hw
  have h := h M_1 eM_1
  obtain ⟨x_2, ex_2⟩ : ∃ y : Int32, y = x1 + (1 : Int32) := ⟨_, rfl⟩
  have h := h x_2 ex_2
  refine lv_iinc (v := x_2) (lv' := [(1, .int x_2), (0, .ref (η 0))]) X.1 X.2.1 dX9_deal_35 hl (k := 1) rfl (by rw [ex_2]; rfl) (by decide) rfl (fun ls hl => ?_)
  refine lv_goto (tgt := 7) X.1 X.2.1 dX9_deal_38 (by decide) ?_
  exact hK7 M_1 x_2 _ _ _ h hw (lv_sub hl [1, 0] rfl)
def vX9_deal_7 (Q : Sg → Int32 → Prop) : Nat → Sg → Int32 → Prop
  | 0, _, _ => False
  | f7_ + 1, M, x1 => (((gI M 30) ≤ x1 → (wX9_deals M (fun M_1 r_2 => (Q M_1 r_2)))) ∧ (¬ (gI M 30) ≤ x1 → (vp_in x1 60 ∧ ((¬ (gA M 38 x1.toNatClampNeg) = 0 → (vX9_deal_34 (vX9_deal_7 Q f7_) Q M x1 (0 : Int32) x1)) ∧ ((gA M 38 x1.toNatClampNeg) = 0 → (vX9_deal_34 (vX9_deal_7 Q f7_) Q M x1 (1 : Int32) x1))))))
set_option maxHeartbeats 4000000 in
set_option maxRecDepth 100000 in
theorem bX9_deal_7 {p : Program} {l : Launch} {e : Env} {s : State} {m : MethodId} {args : Array Value} {below : List Frame} {meth : Method} {c : Code} {D : va_G} {κ : Nat → ClassId} {η : Nat → Nat} {σ : (Nat → Nat) × (Nat → Nat)} {A : Nat → Prop} {Q : Sg → Int32 → Prop} (X : CallFix p m c cX9_deal 2 s args wsX9_deal RX9) (hr : meth.sig.returnType = (some .int)) (hlk : meth.locks = false) : ∀ (f_ : Nat) (M : Sg) (x1 : Int32) (H : Heap) (locs : List Loc) (ls : Array Slot), vX9_deal_7 Q f_ M x1 → Wd (cN σ) D (Ky κ) A s (mw κ η M) H locs → lv_has ls 2 [(0, .ref (η 0)), (1, .int x1)] → W p l e rmX9_deal s m args below meth c H locs 0 0 (MQ below (Qi D (Ky κ) (mw κ η) A Q) args s 0 0 A) (F0 m 7 ls []) := by
  intro f_
  induction f_ with
  | zero => intro M x1 H locs ls h; exact h.elim
  | succ f_ hK7 =>
    intro M x1 H locs ls h hw hl
    refine lv_iload_n X.1 X.2.1 dX9_deal_7 rfl (lv_at hl 1 rfl) ?_
    refine lv_aload_n X.1 X.2.1 dX9_deal_8 rfl (lv_at hl 0 rfl) ?_
    refine r_gf X inX9_deal_X9 hw 0 rfl rfl 30 (by decide) (X.2.2.2.2 (.fieldLink RX9 256 "TestHallModel" "learners" "I") (by decide +kernel)) rfl rfl dX9_deal_9 ?_
    obtain ⟨ht_, hf_⟩ := h
    refine lv_icmp_ge (tgt := 41) X.1 X.2.1 dX9_deal_12 (by decide) (fun c_ => ?_) (fun c_ => ?_)
    · have h := ht_ c_
      refine lv_aload_n X.1 X.2.1 dX9_deal_41 rfl (lv_at hl 0 rfl) ?_
      refine r_Vi (As := []) (rest := []) X cN_ok (kX9_deals h) (cwV 0 X.2.2.2.2 gX9_deal_X9_deals rfl rfl rfl (by decide +kernel) ⟨Nat.le_of_ble_eq_true rfl, Nat.le_of_ble_eq_true rfl⟩) hw 0 8 rfl rfl rfl hl.1 rfl (Nat.le_of_ble_eq_true rfl) dX9_deal_42 (fun r_2 M_1 H locs h hw => ?_)
      exact r_ret X hr hlk hw h dX9_deal_45
    · have h := hf_ c_
      refine lv_aload_n X.1 X.2.1 dX9_deal_15 rfl (lv_at hl 0 rfl) ?_
      refine r_gf X inX9_deal_X9 hw 0 rfl rfl 44 (by decide) (X.2.2.2.2 (.fieldLink RX9 134 "TestHallModel" "isDealt" "[Z") (by decide +kernel)) rfl rfl dX9_deal_16 ?_
      refine lv_iload_n X.1 X.2.1 dX9_deal_19 rfl (lv_at hl 1 rfl) ?_
      refine lv_aload_n X.1 X.2.1 dX9_deal_20 rfl (lv_at hl 0 rfl) ?_
      refine r_gf X inX9_deal_X9 hw 0 rfl rfl 38 (by decide) (X.2.2.2.2 (.fieldLink RX9 119 "TestHallModel" "state" "[I") (by decide +kernel)) rfl rfl dX9_deal_21 ?_
      refine lv_iload_n X.1 X.2.1 dX9_deal_24 rfl (lv_at hl 1 rfl) ?_
      obtain ⟨hi_, h⟩ := h
      refine r_ial X hw 27 0 rfl rfl hi_ dX9_deal_25 ?_
      obtain ⟨ht_, hf_⟩ := h
      refine lv_if_ne (tgt := 33) X.1 X.2.1 dX9_deal_26 (by decide) (fun c_ => ?_) (fun c_ => ?_)
      · have h := ht_ c_
        refine lv_iconst (v := (0 : Int32)) X.1 X.2.1 dX9_deal_33 (by decide) ?_
        exact bX9_deal_34 X hr hlk hK7 M x1 (0 : Int32) x1 _ _ _ h hw (lv_sub hl [0, 1] rfl)
      · have h := hf_ c_
        refine lv_iconst (v := (1 : Int32)) X.1 X.2.1 dX9_deal_29 (by decide) ?_
        refine lv_goto (tgt := 34) X.1 X.2.1 dX9_deal_30 (by decide) ?_
        exact bX9_deal_34 X hr hlk hK7 M x1 (1 : Int32) x1 _ _ _ h hw (lv_sub hl [0, 1] rfl)
def wX9_deal (M : Sg) (Q : Sg → Int32 → Prop) : Prop := (∀ (M_1 : Sg), M_1 = sI M 0 (0 : Int32) → (∃ g7_ : Nat, vX9_deal_7 Q g7_ M_1 (0 : Int32)))
set_option maxHeartbeats 4000000 in
set_option maxRecDepth 100000 in
theorem kX9_deal {l : Launch} {D : va_G} {κ : Nat → ClassId} {η : Nat → Nat} {σ : (Nat → Nat) × (Nat → Nat)} {M : Sg} {Q : Sg → Int32 → Prop} (h : wX9_deal M Q) : Ki (cN σ) D (Ky κ) (mw κ η) l yX9_deal wsX9_deal rmX9_deal [.ref (η 0)] M Q := by
  refine ofW_g (Qc := fun A => Qi D (Ky κ) (mw κ η) A Q) (cc := cX9_deal) (maxL := 2) (ret := (some .int)) (by decide) rfl (Nat.le_of_ble_eq_true rfl) ?_
  intro p e s m args below meth c A ls X hr hlk hw hl
  have hl : lv_has ls 2 [(0, .ref (η 0))] := hl
  refine lv_aload_n X.1 X.2.1 dX9_deal_0 rfl (lv_at hl 0 rfl) ?_
  refine lv_iconst (v := (0 : Int32)) X.1 X.2.1 dX9_deal_1 (by decide) ?_
  refine r_pf (ty := .int) (w' := mw κ η (sI M 0 (0 : Int32))) X inX9_deal_X9 tyX9_ok nmX9 hw 0 rfl rfl 0 (by decide) (X.2.2.2.2 (.fieldLink RX9 1 "TestHallModel" "thrown" "I") (by decide +kernel)) rfl rfl (by decide +kernel) rfl rfl (Nat.le_of_ble_eq_true rfl) rfl dX9_deal_2 (fun H locs hw => ?_)
  obtain ⟨M_1, eM_1⟩ : ∃ y : Sg, y = sI M 0 (0 : Int32) := ⟨_, rfl⟩
  rw [← eM_1] at hw
  have h := h M_1 eM_1
  refine lv_iconst (v := (0 : Int32)) X.1 X.2.1 dX9_deal_5 (by decide) ?_
  refine lv_istore_n (lv' := [(1, .int (0 : Int32)), (0, .ref (η 0))]) X.1 X.2.1 dX9_deal_6 rfl hl (by decide) rfl (fun ls hl => ?_)
  obtain ⟨f_, h⟩ := h
  exact bX9_deal_7 X hr hlk f_ M_1 (0 : Int32) _ _ _ h hw (lv_sub hl [1, 0] rfl)

theorem inX9_movesUp_X9 : ∀ w ∈ wsX90, w ∈ wsX9_movesUp := fun w h => List.mem_cons_of_mem _ (List.mem_append_right _ h)
abbrev rmX9_movesUp : Room := { frames := 3, cells := 0, slots := 0, locals := 69 }
def vX9_movesUp_152 (K8 : Sg → Int32 → Int32 → Prop) (Q : Sg → Int32 → Prop) (M : Sg) (x2 : Int32) (x5 : Int32) : Prop := (K8 M x2 x5)
set_option maxHeartbeats 4000000 in
set_option maxRecDepth 100000 in
theorem bX9_movesUp_152 {p : Program} {l : Launch} {e : Env} {s : State} {m : MethodId} {args : Array Value} {below : List Frame} {meth : Method} {c : Code} {D : va_G} {κ : Nat → ClassId} {η : Nat → Nat} {σ : (Nat → Nat) × (Nat → Nat)} {A : Nat → Prop} {Q : Sg → Int32 → Prop} {K8 : Sg → Int32 → Int32 → Prop} (X : CallFix p m c cX9_movesUp 6 s args wsX9_movesUp RX9) (hr : meth.sig.returnType = (some .int)) (hlk : meth.locks = false) (hK8 : ∀ (M : Sg) (x2 : Int32) (x3 : Int32) (H : Heap) (locs : List Loc) (ls : Array Slot), K8 M x2 x3 → Wd (cN σ) D (Ky κ) A s (mw κ η M) H locs → lv_has ls 6 [(0, .ref (η 0)), (2, .int x2), (3, .int x3)] → W p l e rmX9_movesUp s m args below meth c H locs 0 0 (MQ below (Qi D (Ky κ) (mw κ η) A Q) args s 0 0 A) (F0 m 8 ls [])) : ∀ (M : Sg) (x2 : Int32) (x5 : Int32) (H : Heap) (locs : List Loc) (ls : Array Slot), vX9_movesUp_152 K8 Q M x2 x5 → Wd (cN σ) D (Ky κ) A s (mw κ η M) H locs → lv_has ls 6 [(0, .ref (η 0)), (2, .int x2), (5, .int x5)] → W p l e rmX9_movesUp s m args below meth c H locs 0 0 (MQ below (Qi D (Ky κ) (mw κ η) A Q) args s 0 0 A) (F0 m 152 ls []) := by
  intro M x2 x5 H locs ls h hw hl
  refine lv_iload X.1 X.2.1 dX9_movesUp_152 (lv_at hl 2 rfl) ?_
  refine lv_istore_n (lv' := [(3, .int x5), (0, .ref (η 0)), (2, .int x2), (5, .int x5)]) X.1 X.2.1 dX9_movesUp_154 rfl hl (by decide) rfl (fun ls hl => ?_)
  refine lv_goto (tgt := 8) X.1 X.2.1 dX9_movesUp_155 (by decide) ?_
  exact hK8 M x2 x5 _ _ _ h hw (lv_sub hl [1, 2, 0] rfl)
def vX9_movesUp_124 (K8 : Sg → Int32 → Int32 → Prop) (Q : Sg → Int32 → Prop) (M : Sg) (x2 : Int32) (x3 : Int32) (x4 : Int32) (s0 : Int32) : Prop := ((x4 < 0 → (vX9_movesUp_152 K8 Q M x2 s0)) ∧ (¬ x4 < 0 → (wX9_books M x4 x3 (fun M_1 => (vp_in x4 60 ∧ (vp_in x4 60 ∧ (∀ (M_3 : Sg), M_3 = sA M_1 41 x4.toNatClampNeg ((gA M_1 41 x4.toNatClampNeg) + (1 : Int32)) → (∀ (x_4 : Int32), x_4 = x2 + (1 : Int32) → (vX9_movesUp_152 K8 Q M_3 x_4 s0)))))))))
set_option maxHeartbeats 4000000 in
set_option maxRecDepth 100000 in
theorem bX9_movesUp_124 {p : Program} {l : Launch} {e : Env} {s : State} {m : MethodId} {args : Array Value} {below : List Frame} {meth : Method} {c : Code} {D : va_G} {κ : Nat → ClassId} {η : Nat → Nat} {σ : (Nat → Nat) × (Nat → Nat)} {A : Nat → Prop} {Q : Sg → Int32 → Prop} {K8 : Sg → Int32 → Int32 → Prop} (X : CallFix p m c cX9_movesUp 6 s args wsX9_movesUp RX9) (hr : meth.sig.returnType = (some .int)) (hlk : meth.locks = false) (hK8 : ∀ (M : Sg) (x2 : Int32) (x3 : Int32) (H : Heap) (locs : List Loc) (ls : Array Slot), K8 M x2 x3 → Wd (cN σ) D (Ky κ) A s (mw κ η M) H locs → lv_has ls 6 [(0, .ref (η 0)), (2, .int x2), (3, .int x3)] → W p l e rmX9_movesUp s m args below meth c H locs 0 0 (MQ below (Qi D (Ky κ) (mw κ η) A Q) args s 0 0 A) (F0 m 8 ls [])) : ∀ (M : Sg) (x2 : Int32) (x3 : Int32) (x4 : Int32) (s0 : Int32) (H : Heap) (locs : List Loc) (ls : Array Slot), vX9_movesUp_124 K8 Q M x2 x3 x4 s0 → Wd (cN σ) D (Ky κ) A s (mw κ η M) H locs → lv_has ls 6 [(0, .ref (η 0)), (2, .int x2), (3, .int x3), (4, .int x4)] → W p l e rmX9_movesUp s m args below meth c H locs 0 0 (MQ below (Qi D (Ky κ) (mw κ η) A Q) args s 0 0 A) (F0 m 124 ls [.int s0]) := by
  intro M x2 x3 x4 s0 H locs ls h hw hl
  refine lv_istore (lv' := [(5, .int s0), (0, .ref (η 0)), (2, .int x2), (3, .int x3), (4, .int x4)]) X.1 X.2.1 dX9_movesUp_124 hl (by decide) rfl (fun ls hl => ?_)
  refine lv_iload X.1 X.2.1 dX9_movesUp_126 (lv_at hl 4 rfl) ?_
  obtain ⟨ht_, hf_⟩ := h
  refine lv_if_lt (tgt := 152) X.1 X.2.1 dX9_movesUp_128 (by decide) (fun c_ => ?_) (fun c_ => ?_)
  · have h := ht_ c_
    exact bX9_movesUp_152 X hr hlk hK8 M x2 s0 _ _ _ h hw (lv_sub hl [1, 2, 0] rfl)
  · have h := hf_ c_
    refine lv_aload_n X.1 X.2.1 dX9_movesUp_131 rfl (lv_at hl 1 rfl) ?_
    refine lv_iload X.1 X.2.1 dX9_movesUp_132 (lv_at hl 4 rfl) ?_
    refine lv_iload_n X.1 X.2.1 dX9_movesUp_134 rfl (lv_at hl 3 rfl) ?_
    refine r_Vv (As := [.int x4, .int x3]) (rest := []) X cN_ok (kX9_books h) (cwV 2 X.2.2.2.2 gX9_movesUp_X9_books rfl rfl rfl (by decide +kernel) ⟨Nat.le_of_ble_eq_true rfl, Nat.le_of_ble_eq_true rfl⟩) hw 0 8 rfl rfl rfl hl.1 rfl (Nat.le_of_ble_eq_true rfl) dX9_movesUp_135 (fun M_1 H locs h hw => ?_)
    refine lv_aload_n X.1 X.2.1 dX9_movesUp_138 rfl (lv_at hl 1 rfl) ?_
    refine r_gf X inX9_movesUp_X9 hw 0 rfl rfl 41 (by decide) (X.2.2.2.2 (.fieldLink RX9 128 "TestHallModel" "ups" "[I") (by decide +kernel)) rfl rfl dX9_movesUp_139 ?_
    refine lv_iload X.1 X.2.1 dX9_movesUp_142 (lv_at hl 4 rfl) ?_
    refine lv_dup2_11 X.1 X.2.1 dX9_movesUp_144 rfl rfl ?_
    obtain ⟨hi_, h⟩ := h
    refine r_ial X hw 30 0 rfl rfl hi_ dX9_movesUp_145 ?_
    refine lv_iconst (v := (1 : Int32)) X.1 X.2.1 dX9_movesUp_146 (by decide) ?_
    refine lv_iadd X.1 X.2.1 dX9_movesUp_147 ?_
    obtain ⟨hi_, h⟩ := h
    refine r_ias (w' := mw κ η (sA M_1 41 x4.toNatClampNeg ((gA M_1 41 x4.toNatClampNeg) + (1 : Int32)))) X hw 30 0 rfl rfl hi_ rfl dX9_movesUp_148 (fun H locs hw => ?_)
    obtain ⟨M_3, eM_3⟩ : ∃ y : Sg, y = sA M_1 41 x4.toNatClampNeg ((gA M_1 41 x4.toNatClampNeg) + (1 : Int32)) := ⟨_, rfl⟩
    rw [← eM_3] at hw
    have h := h M_3 eM_3
    obtain ⟨x_4, ex_4⟩ : ∃ y : Int32, y = x2 + (1 : Int32) := ⟨_, rfl⟩
    have h := h x_4 ex_4
    refine lv_iinc (v := x_4) (lv' := [(2, .int x_4), (5, .int s0), (0, .ref (η 0)), (3, .int x3), (4, .int x4)]) X.1 X.2.1 dX9_movesUp_149 hl (k := 2) rfl (by rw [ex_4]; rfl) (by decide) rfl (fun ls hl => ?_)
    exact bX9_movesUp_152 X hr hlk hK8 M_3 x_4 s0 _ _ _ h hw (lv_sub hl [2, 0, 1] rfl)
def vX9_movesUp_108 (K8 : Sg → Int32 → Int32 → Prop) (Q : Sg → Int32 → Prop) (M : Sg) (x2 : Int32) (x3 : Int32) (x4 : Int32) : Prop := ((0 ≤ x4 → (vp_in x4 60 ∧ (vX9_movesUp_124 K8 Q M x2 x3 x4 (gA M 39 x4.toNatClampNeg)))) ∧ (¬ 0 ≤ x4 → (vX9_movesUp_124 K8 Q M x2 x3 x4 (-1 : Int32))))
set_option maxHeartbeats 4000000 in
set_option maxRecDepth 100000 in
theorem bX9_movesUp_108 {p : Program} {l : Launch} {e : Env} {s : State} {m : MethodId} {args : Array Value} {below : List Frame} {meth : Method} {c : Code} {D : va_G} {κ : Nat → ClassId} {η : Nat → Nat} {σ : (Nat → Nat) × (Nat → Nat)} {A : Nat → Prop} {Q : Sg → Int32 → Prop} {K8 : Sg → Int32 → Int32 → Prop} (X : CallFix p m c cX9_movesUp 6 s args wsX9_movesUp RX9) (hr : meth.sig.returnType = (some .int)) (hlk : meth.locks = false) (hK8 : ∀ (M : Sg) (x2 : Int32) (x3 : Int32) (H : Heap) (locs : List Loc) (ls : Array Slot), K8 M x2 x3 → Wd (cN σ) D (Ky κ) A s (mw κ η M) H locs → lv_has ls 6 [(0, .ref (η 0)), (2, .int x2), (3, .int x3)] → W p l e rmX9_movesUp s m args below meth c H locs 0 0 (MQ below (Qi D (Ky κ) (mw κ η) A Q) args s 0 0 A) (F0 m 8 ls [])) : ∀ (M : Sg) (x2 : Int32) (x3 : Int32) (x4 : Int32) (H : Heap) (locs : List Loc) (ls : Array Slot), vX9_movesUp_108 K8 Q M x2 x3 x4 → Wd (cN σ) D (Ky κ) A s (mw κ η M) H locs → lv_has ls 6 [(0, .ref (η 0)), (2, .int x2), (3, .int x3), (4, .int x4)] → W p l e rmX9_movesUp s m args below meth c H locs 0 0 (MQ below (Qi D (Ky κ) (mw κ η) A Q) args s 0 0 A) (F0 m 108 ls []) := by
  intro M x2 x3 x4 H locs ls h hw hl
  refine lv_iload X.1 X.2.1 dX9_movesUp_108 (lv_at hl 3 rfl) ?_
  obtain ⟨ht_, hf_⟩ := h
  refine lv_if_ge (tgt := 117) X.1 X.2.1 dX9_movesUp_110 (by decide) (fun c_ => ?_) (fun c_ => ?_)
  · have h := ht_ c_
    refine lv_aload_n X.1 X.2.1 dX9_movesUp_117 rfl (lv_at hl 0 rfl) ?_
    refine r_gf X inX9_movesUp_X9 hw 0 rfl rfl 39 (by decide) (X.2.2.2.2 (.fieldLink RX9 122 "TestHallModel" "slot" "[I") (by decide +kernel)) rfl rfl dX9_movesUp_118 ?_
    refine lv_iload X.1 X.2.1 dX9_movesUp_121 (lv_at hl 3 rfl) ?_
    obtain ⟨hi_, h⟩ := h
    refine r_ial X hw 28 0 rfl rfl hi_ dX9_movesUp_123 ?_
    exact bX9_movesUp_124 X hr hlk hK8 M x2 x3 x4 (gA M 39 x4.toNatClampNeg) _ _ _ h hw (lv_sub hl [0, 1, 2, 3] rfl)
  · have h := hf_ c_
    refine lv_iconst (v := (-1 : Int32)) X.1 X.2.1 dX9_movesUp_113 (by decide) ?_
    refine lv_goto (tgt := 124) X.1 X.2.1 dX9_movesUp_114 (by decide) ?_
    exact bX9_movesUp_124 X hr hlk hK8 M x2 x3 x4 (-1 : Int32) _ _ _ h hw (lv_sub hl [0, 1, 2, 3] rfl)
def vX9_movesUp_102 (K8 : Sg → Int32 → Int32 → Prop) (K18 : Sg → Int32 → Int32 → Int32 → Int32 → Prop) (Q : Sg → Int32 → Prop) (M : Sg) (x2 : Int32) (x3 : Int32) (x4 : Int32) (x5 : Int32) : Prop := (∀ (x_1 : Int32), x_1 = x5 + (1 : Int32) → (K18 M x2 x3 x4 x_1))
set_option maxHeartbeats 4000000 in
set_option maxRecDepth 100000 in
theorem bX9_movesUp_102 {p : Program} {l : Launch} {e : Env} {s : State} {m : MethodId} {args : Array Value} {below : List Frame} {meth : Method} {c : Code} {D : va_G} {κ : Nat → ClassId} {η : Nat → Nat} {σ : (Nat → Nat) × (Nat → Nat)} {A : Nat → Prop} {Q : Sg → Int32 → Prop} {K8 : Sg → Int32 → Int32 → Prop} {K18 : Sg → Int32 → Int32 → Int32 → Int32 → Prop} (X : CallFix p m c cX9_movesUp 6 s args wsX9_movesUp RX9) (hr : meth.sig.returnType = (some .int)) (hlk : meth.locks = false) (hK8 : ∀ (M : Sg) (x2 : Int32) (x3 : Int32) (H : Heap) (locs : List Loc) (ls : Array Slot), K8 M x2 x3 → Wd (cN σ) D (Ky κ) A s (mw κ η M) H locs → lv_has ls 6 [(0, .ref (η 0)), (2, .int x2), (3, .int x3)] → W p l e rmX9_movesUp s m args below meth c H locs 0 0 (MQ below (Qi D (Ky κ) (mw κ η) A Q) args s 0 0 A) (F0 m 8 ls [])) (hK18 : ∀ (M : Sg) (x2 : Int32) (x3 : Int32) (x4 : Int32) (x5 : Int32) (H : Heap) (locs : List Loc) (ls : Array Slot), K18 M x2 x3 x4 x5 → Wd (cN σ) D (Ky κ) A s (mw κ η M) H locs → lv_has ls 6 [(0, .ref (η 0)), (2, .int x2), (3, .int x3), (4, .int x4), (5, .int x5)] → W p l e rmX9_movesUp s m args below meth c H locs 0 0 (MQ below (Qi D (Ky κ) (mw κ η) A Q) args s 0 0 A) (F0 m 18 ls [])) : ∀ (M : Sg) (x2 : Int32) (x3 : Int32) (x4 : Int32) (x5 : Int32) (H : Heap) (locs : List Loc) (ls : Array Slot), vX9_movesUp_102 K8 K18 Q M x2 x3 x4 x5 → Wd (cN σ) D (Ky κ) A s (mw κ η M) H locs → lv_has ls 6 [(0, .ref (η 0)), (2, .int x2), (3, .int x3), (4, .int x4), (5, .int x5)] → W p l e rmX9_movesUp s m args below meth c H locs 0 0 (MQ below (Qi D (Ky κ) (mw κ η) A Q) args s 0 0 A) (F0 m 102 ls []) := by
  intro M x2 x3 x4 x5 H locs ls h hw hl
  obtain ⟨x_1, ex_1⟩ : ∃ y : Int32, y = x5 + (1 : Int32) := ⟨_, rfl⟩
  have h := h x_1 ex_1
  refine lv_iinc (v := x_1) (lv' := [(5, .int x_1), (0, .ref (η 0)), (2, .int x2), (3, .int x3), (4, .int x4)]) X.1 X.2.1 dX9_movesUp_102 hl (k := 4) rfl (by rw [ex_1]; rfl) (by decide) rfl (fun ls hl => ?_)
  refine lv_goto (tgt := 18) X.1 X.2.1 dX9_movesUp_105 (by decide) ?_
  exact hK18 M x2 x3 x4 x_1 _ _ _ h hw (lv_sub hl [1, 2, 3, 4, 0] rfl)
def vX9_movesUp_100 (K8 : Sg → Int32 → Int32 → Prop) (K18 : Sg → Int32 → Int32 → Int32 → Int32 → Prop) (Q : Sg → Int32 → Prop) (M : Sg) (x2 : Int32) (x3 : Int32) (x5 : Int32) (s0 : Int32) : Prop := (vX9_movesUp_102 K8 K18 Q M x2 x3 s0 x5)
set_option maxHeartbeats 4000000 in
set_option maxRecDepth 100000 in
theorem bX9_movesUp_100 {p : Program} {l : Launch} {e : Env} {s : State} {m : MethodId} {args : Array Value} {below : List Frame} {meth : Method} {c : Code} {D : va_G} {κ : Nat → ClassId} {η : Nat → Nat} {σ : (Nat → Nat) × (Nat → Nat)} {A : Nat → Prop} {Q : Sg → Int32 → Prop} {K8 : Sg → Int32 → Int32 → Prop} {K18 : Sg → Int32 → Int32 → Int32 → Int32 → Prop} (X : CallFix p m c cX9_movesUp 6 s args wsX9_movesUp RX9) (hr : meth.sig.returnType = (some .int)) (hlk : meth.locks = false) (hK8 : ∀ (M : Sg) (x2 : Int32) (x3 : Int32) (H : Heap) (locs : List Loc) (ls : Array Slot), K8 M x2 x3 → Wd (cN σ) D (Ky κ) A s (mw κ η M) H locs → lv_has ls 6 [(0, .ref (η 0)), (2, .int x2), (3, .int x3)] → W p l e rmX9_movesUp s m args below meth c H locs 0 0 (MQ below (Qi D (Ky κ) (mw κ η) A Q) args s 0 0 A) (F0 m 8 ls [])) (hK18 : ∀ (M : Sg) (x2 : Int32) (x3 : Int32) (x4 : Int32) (x5 : Int32) (H : Heap) (locs : List Loc) (ls : Array Slot), K18 M x2 x3 x4 x5 → Wd (cN σ) D (Ky κ) A s (mw κ η M) H locs → lv_has ls 6 [(0, .ref (η 0)), (2, .int x2), (3, .int x3), (4, .int x4), (5, .int x5)] → W p l e rmX9_movesUp s m args below meth c H locs 0 0 (MQ below (Qi D (Ky κ) (mw κ η) A Q) args s 0 0 A) (F0 m 18 ls [])) : ∀ (M : Sg) (x2 : Int32) (x3 : Int32) (x5 : Int32) (s0 : Int32) (H : Heap) (locs : List Loc) (ls : Array Slot), vX9_movesUp_100 K8 K18 Q M x2 x3 x5 s0 → Wd (cN σ) D (Ky κ) A s (mw κ η M) H locs → lv_has ls 6 [(0, .ref (η 0)), (2, .int x2), (3, .int x3), (5, .int x5)] → W p l e rmX9_movesUp s m args below meth c H locs 0 0 (MQ below (Qi D (Ky κ) (mw κ η) A Q) args s 0 0 A) (F0 m 100 ls [.int s0]) := by
  intro M x2 x3 x5 s0 H locs ls h hw hl
  refine lv_istore (lv' := [(4, .int s0), (0, .ref (η 0)), (2, .int x2), (3, .int x3), (5, .int x5)]) X.1 X.2.1 dX9_movesUp_100 hl (by decide) rfl (fun ls hl => ?_)
  exact bX9_movesUp_102 X hr hlk hK8 hK18 M x2 x3 s0 x5 _ _ _ h hw (lv_sub hl [1, 2, 3, 0, 4] rfl)
def vX9_movesUp_93 (K8 : Sg → Int32 → Int32 → Prop) (K18 : Sg → Int32 → Int32 → Int32 → Int32 → Prop) (Q : Sg → Int32 → Prop) (M : Sg) (x2 : Int32) (x3 : Int32) (x5 : Int32) : Prop := (vX9_movesUp_100 K8 K18 Q M x2 x3 x5 x5)
set_option maxHeartbeats 4000000 in
set_option maxRecDepth 100000 in
theorem bX9_movesUp_93 {p : Program} {l : Launch} {e : Env} {s : State} {m : MethodId} {args : Array Value} {below : List Frame} {meth : Method} {c : Code} {D : va_G} {κ : Nat → ClassId} {η : Nat → Nat} {σ : (Nat → Nat) × (Nat → Nat)} {A : Nat → Prop} {Q : Sg → Int32 → Prop} {K8 : Sg → Int32 → Int32 → Prop} {K18 : Sg → Int32 → Int32 → Int32 → Int32 → Prop} (X : CallFix p m c cX9_movesUp 6 s args wsX9_movesUp RX9) (hr : meth.sig.returnType = (some .int)) (hlk : meth.locks = false) (hK8 : ∀ (M : Sg) (x2 : Int32) (x3 : Int32) (H : Heap) (locs : List Loc) (ls : Array Slot), K8 M x2 x3 → Wd (cN σ) D (Ky κ) A s (mw κ η M) H locs → lv_has ls 6 [(0, .ref (η 0)), (2, .int x2), (3, .int x3)] → W p l e rmX9_movesUp s m args below meth c H locs 0 0 (MQ below (Qi D (Ky κ) (mw κ η) A Q) args s 0 0 A) (F0 m 8 ls [])) (hK18 : ∀ (M : Sg) (x2 : Int32) (x3 : Int32) (x4 : Int32) (x5 : Int32) (H : Heap) (locs : List Loc) (ls : Array Slot), K18 M x2 x3 x4 x5 → Wd (cN σ) D (Ky κ) A s (mw κ η M) H locs → lv_has ls 6 [(0, .ref (η 0)), (2, .int x2), (3, .int x3), (4, .int x4), (5, .int x5)] → W p l e rmX9_movesUp s m args below meth c H locs 0 0 (MQ below (Qi D (Ky κ) (mw κ η) A Q) args s 0 0 A) (F0 m 18 ls [])) : ∀ (M : Sg) (x2 : Int32) (x3 : Int32) (x5 : Int32) (H : Heap) (locs : List Loc) (ls : Array Slot), vX9_movesUp_93 K8 K18 Q M x2 x3 x5 → Wd (cN σ) D (Ky κ) A s (mw κ η M) H locs → lv_has ls 6 [(0, .ref (η 0)), (2, .int x2), (3, .int x3), (5, .int x5)] → W p l e rmX9_movesUp s m args below meth c H locs 0 0 (MQ below (Qi D (Ky κ) (mw κ η) A Q) args s 0 0 A) (F0 m 93 ls []) := by
  intro M x2 x3 x5 H locs ls h hw hl
  refine lv_iload X.1 X.2.1 dX9_movesUp_93 (lv_at hl 3 rfl) ?_
  refine lv_goto (tgt := 100) X.1 X.2.1 dX9_movesUp_95 (by decide) ?_
  exact bX9_movesUp_100 X hr hlk hK8 hK18 M x2 x3 x5 x5 _ _ _ h hw (lv_sub hl [0, 1, 2, 3] rfl)
def vX9_movesUp_18 (K8 : Sg → Int32 → Int32 → Prop) (Q : Sg → Int32 → Prop) : Nat → Sg → Int32 → Int32 → Int32 → Int32 → Prop
  | 0, _, _, _, _, _ => False
  | f18_ + 1, M, x2, x3, x4, x5 => (((gI M 30) ≤ x5 → (vX9_movesUp_108 K8 Q M x2 x3 x4)) ∧ (¬ (gI M 30) ≤ x5 → (wX9_isFree M x3 (fun M_1 r_2 => ((r_2 = 0 → (vX9_movesUp_108 K8 Q M_1 x2 x3 x4)) ∧ (¬ r_2 = 0 → (vp_in x5 60 ∧ ((¬ (gA M_1 38 x5.toNatClampNeg) = (1 : Int32) → (vX9_movesUp_102 K8 (vX9_movesUp_18 K8 Q f18_) Q M_1 x2 x3 x4 x5)) ∧ ((gA M_1 38 x5.toNatClampNeg) = (1 : Int32) → (vp_in x5 60 ∧ (((gA M_1 39 x5.toNatClampNeg) ≤ x3 → (vX9_movesUp_102 K8 (vX9_movesUp_18 K8 Q f18_) Q M_1 x2 x3 x4 x5)) ∧ (¬ (gA M_1 39 x5.toNatClampNeg) ≤ x3 → (vp_in x5 60 ∧ (((gA M_1 36 x5.toNatClampNeg) = 0 → (vX9_movesUp_102 K8 (vX9_movesUp_18 K8 Q f18_) Q M_1 x2 x3 x4 x5)) ∧ (¬ (gA M_1 36 x5.toNatClampNeg) = 0 → (wX9_suits M_1 x3 x5 (fun M_3 r_4 => ((r_4 = 0 → (vX9_movesUp_102 K8 (vX9_movesUp_18 K8 Q f18_) Q M_3 x2 x3 x4 x5)) ∧ (¬ r_4 = 0 → ((x4 < 0 → (vX9_movesUp_93 K8 (vX9_movesUp_18 K8 Q f18_) Q M_3 x2 x3 x5)) ∧ (¬ x4 < 0 → (wX9_isAhead M_3 x5 x4 (fun M_5 r_6 => ((r_6 = 0 → (vX9_movesUp_100 K8 (vX9_movesUp_18 K8 Q f18_) Q M_5 x2 x3 x5 x4)) ∧ (¬ r_6 = 0 → (vX9_movesUp_93 K8 (vX9_movesUp_18 K8 Q f18_) Q M_5 x2 x3 x5))))))))))))))))))))))))))
set_option maxHeartbeats 4000000 in
set_option maxRecDepth 100000 in
theorem bX9_movesUp_18 {p : Program} {l : Launch} {e : Env} {s : State} {m : MethodId} {args : Array Value} {below : List Frame} {meth : Method} {c : Code} {D : va_G} {κ : Nat → ClassId} {η : Nat → Nat} {σ : (Nat → Nat) × (Nat → Nat)} {A : Nat → Prop} {Q : Sg → Int32 → Prop} {K8 : Sg → Int32 → Int32 → Prop} (X : CallFix p m c cX9_movesUp 6 s args wsX9_movesUp RX9) (hr : meth.sig.returnType = (some .int)) (hlk : meth.locks = false) (hK8 : ∀ (M : Sg) (x2 : Int32) (x3 : Int32) (H : Heap) (locs : List Loc) (ls : Array Slot), K8 M x2 x3 → Wd (cN σ) D (Ky κ) A s (mw κ η M) H locs → lv_has ls 6 [(0, .ref (η 0)), (2, .int x2), (3, .int x3)] → W p l e rmX9_movesUp s m args below meth c H locs 0 0 (MQ below (Qi D (Ky κ) (mw κ η) A Q) args s 0 0 A) (F0 m 8 ls [])) : ∀ (f_ : Nat) (M : Sg) (x2 : Int32) (x3 : Int32) (x4 : Int32) (x5 : Int32) (H : Heap) (locs : List Loc) (ls : Array Slot), vX9_movesUp_18 K8 Q f_ M x2 x3 x4 x5 → Wd (cN σ) D (Ky κ) A s (mw κ η M) H locs → lv_has ls 6 [(0, .ref (η 0)), (2, .int x2), (3, .int x3), (4, .int x4), (5, .int x5)] → W p l e rmX9_movesUp s m args below meth c H locs 0 0 (MQ below (Qi D (Ky κ) (mw κ η) A Q) args s 0 0 A) (F0 m 18 ls []) := by
  intro f_
  induction f_ with
  | zero => intro M x2 x3 x4 x5 H locs ls h; exact h.elim
  | succ f_ hK18 =>
    intro M x2 x3 x4 x5 H locs ls h hw hl
    refine lv_iload X.1 X.2.1 dX9_movesUp_18 (lv_at hl 4 rfl) ?_
    refine lv_aload_n X.1 X.2.1 dX9_movesUp_20 rfl (lv_at hl 0 rfl) ?_
    refine r_gf X inX9_movesUp_X9 hw 0 rfl rfl 30 (by decide) (X.2.2.2.2 (.fieldLink RX9 256 "TestHallModel" "learners" "I") (by decide +kernel)) rfl rfl dX9_movesUp_21 ?_
    obtain ⟨ht_, hf_⟩ := h
    refine lv_icmp_ge (tgt := 108) X.1 X.2.1 dX9_movesUp_24 (by decide) (fun c_ => ?_) (fun c_ => ?_)
    · have h := ht_ c_
      exact bX9_movesUp_108 X hr hlk hK8 M x2 x3 x4 _ _ _ h hw (lv_sub hl [0, 1, 2, 3] rfl)
    · have h := hf_ c_
      refine lv_aload_n X.1 X.2.1 dX9_movesUp_27 rfl (lv_at hl 0 rfl) ?_
      refine lv_iload_n X.1 X.2.1 dX9_movesUp_28 rfl (lv_at hl 2 rfl) ?_
      refine r_Vi (As := [.int x3]) (rest := []) X cN_ok (kX9_isFree h) (cwV 1 X.2.2.2.2 gX9_movesUp_X9_isFree rfl rfl rfl (by decide +kernel) ⟨Nat.le_of_ble_eq_true rfl, Nat.le_of_ble_eq_true rfl⟩) hw 0 8 rfl rfl rfl hl.1 rfl (Nat.le_of_ble_eq_true rfl) dX9_movesUp_29 (fun r_2 M_1 H locs h hw => ?_)
      obtain ⟨ht_, hf_⟩ := h
      refine lv_if_eq (tgt := 108) X.1 X.2.1 dX9_movesUp_32 (by decide) (fun c_ => ?_) (fun c_ => ?_)
      · have h := ht_ c_
        exact bX9_movesUp_108 X hr hlk hK8 M_1 x2 x3 x4 _ _ _ h hw (lv_sub hl [0, 1, 2, 3] rfl)
      · have h := hf_ c_
        refine lv_aload_n X.1 X.2.1 dX9_movesUp_35 rfl (lv_at hl 0 rfl) ?_
        refine r_gf X inX9_movesUp_X9 hw 0 rfl rfl 38 (by decide) (X.2.2.2.2 (.fieldLink RX9 119 "TestHallModel" "state" "[I") (by decide +kernel)) rfl rfl dX9_movesUp_36 ?_
        refine lv_iload X.1 X.2.1 dX9_movesUp_39 (lv_at hl 4 rfl) ?_
        obtain ⟨hi_, h⟩ := h
        refine r_ial X hw 27 0 rfl rfl hi_ dX9_movesUp_41 ?_
        refine lv_iconst (v := (1 : Int32)) X.1 X.2.1 dX9_movesUp_42 (by decide) ?_
        obtain ⟨ht_, hf_⟩ := h
        refine lv_icmp_ne (tgt := 102) X.1 X.2.1 dX9_movesUp_43 (by decide) (fun c_ => ?_) (fun c_ => ?_)
        · have h := ht_ c_
          exact bX9_movesUp_102 X hr hlk hK8 hK18 M_1 x2 x3 x4 x5 _ _ _ h hw (lv_sub hl [0, 1, 2, 3, 4] rfl)
        · have h := hf_ c_
          refine lv_aload_n X.1 X.2.1 dX9_movesUp_46 rfl (lv_at hl 0 rfl) ?_
          refine r_gf X inX9_movesUp_X9 hw 0 rfl rfl 39 (by decide) (X.2.2.2.2 (.fieldLink RX9 122 "TestHallModel" "slot" "[I") (by decide +kernel)) rfl rfl dX9_movesUp_47 ?_
          refine lv_iload X.1 X.2.1 dX9_movesUp_50 (lv_at hl 4 rfl) ?_
          obtain ⟨hi_, h⟩ := h
          refine r_ial X hw 28 0 rfl rfl hi_ dX9_movesUp_52 ?_
          refine lv_iload_n X.1 X.2.1 dX9_movesUp_53 rfl (lv_at hl 2 rfl) ?_
          obtain ⟨ht_, hf_⟩ := h
          refine lv_icmp_le (tgt := 102) X.1 X.2.1 dX9_movesUp_54 (by decide) (fun c_ => ?_) (fun c_ => ?_)
          · have h := ht_ c_
            exact bX9_movesUp_102 X hr hlk hK8 hK18 M_1 x2 x3 x4 x5 _ _ _ h hw (lv_sub hl [0, 1, 2, 3, 4] rfl)
          · have h := hf_ c_
            refine lv_aload_n X.1 X.2.1 dX9_movesUp_57 rfl (lv_at hl 0 rfl) ?_
            refine r_gf X inX9_movesUp_X9 hw 0 rfl rfl 36 (by decide) (X.2.2.2.2 (.fieldLink RX9 113 "TestHallModel" "isSooner" "[Z") (by decide +kernel)) rfl rfl dX9_movesUp_58 ?_
            refine lv_iload X.1 X.2.1 dX9_movesUp_61 (lv_at hl 4 rfl) ?_
            obtain ⟨hi_, h⟩ := h
            refine r_zal X hw 25 1 rfl rfl hi_ dX9_movesUp_63 ?_
            obtain ⟨ht_, hf_⟩ := h
            refine lv_if_eq (tgt := 102) X.1 X.2.1 dX9_movesUp_64 (by decide) (fun c_ => ?_) (fun c_ => ?_)
            · have h := ht_ c_
              exact bX9_movesUp_102 X hr hlk hK8 hK18 M_1 x2 x3 x4 x5 _ _ _ h hw (lv_sub hl [0, 1, 2, 3, 4] rfl)
            · have h := hf_ c_
              refine lv_aload_n X.1 X.2.1 dX9_movesUp_67 rfl (lv_at hl 0 rfl) ?_
              refine lv_iload_n X.1 X.2.1 dX9_movesUp_68 rfl (lv_at hl 2 rfl) ?_
              refine lv_iload X.1 X.2.1 dX9_movesUp_69 (lv_at hl 4 rfl) ?_
              refine r_Vi (As := [.int x3, .int x5]) (rest := []) X cN_ok (kX9_suits h) (cwV 2 X.2.2.2.2 gX9_movesUp_X9_suits rfl rfl rfl (by decide +kernel) ⟨Nat.le_of_ble_eq_true rfl, Nat.le_of_ble_eq_true rfl⟩) hw 0 8 rfl rfl rfl hl.1 rfl (Nat.le_of_ble_eq_true rfl) dX9_movesUp_71 (fun r_4 M_3 H locs h hw => ?_)
              obtain ⟨ht_, hf_⟩ := h
              refine lv_if_eq (tgt := 102) X.1 X.2.1 dX9_movesUp_74 (by decide) (fun c_ => ?_) (fun c_ => ?_)
              · have h := ht_ c_
                exact bX9_movesUp_102 X hr hlk hK8 hK18 M_3 x2 x3 x4 x5 _ _ _ h hw (lv_sub hl [0, 1, 2, 3, 4] rfl)
              · have h := hf_ c_
                refine lv_iload X.1 X.2.1 dX9_movesUp_77 (lv_at hl 3 rfl) ?_
                obtain ⟨ht_, hf_⟩ := h
                refine lv_if_lt (tgt := 93) X.1 X.2.1 dX9_movesUp_79 (by decide) (fun c_ => ?_) (fun c_ => ?_)
                · have h := ht_ c_
                  exact bX9_movesUp_93 X hr hlk hK8 hK18 M_3 x2 x3 x5 _ _ _ h hw (lv_sub hl [0, 1, 2, 4] rfl)
                · have h := hf_ c_
                  refine lv_aload_n X.1 X.2.1 dX9_movesUp_82 rfl (lv_at hl 0 rfl) ?_
                  refine lv_iload X.1 X.2.1 dX9_movesUp_83 (lv_at hl 4 rfl) ?_
                  refine lv_iload X.1 X.2.1 dX9_movesUp_85 (lv_at hl 3 rfl) ?_
                  refine r_Vi (As := [.int x5, .int x4]) (rest := []) X cN_ok (kX9_isAhead h) (cwV 2 X.2.2.2.2 gX9_movesUp_X9_isAhead rfl rfl rfl (by decide +kernel) ⟨Nat.le_of_ble_eq_true rfl, Nat.le_of_ble_eq_true rfl⟩) hw 0 8 rfl rfl rfl hl.1 rfl (Nat.le_of_ble_eq_true rfl) dX9_movesUp_87 (fun r_6 M_5 H locs h hw => ?_)
                  obtain ⟨ht_, hf_⟩ := h
                  refine lv_if_eq (tgt := 98) X.1 X.2.1 dX9_movesUp_90 (by decide) (fun c_ => ?_) (fun c_ => ?_)
                  · have h := ht_ c_
                    refine lv_iload X.1 X.2.1 dX9_movesUp_98 (lv_at hl 3 rfl) ?_
                    exact bX9_movesUp_100 X hr hlk hK8 hK18 M_5 x2 x3 x5 x4 _ _ _ h hw (lv_sub hl [0, 1, 2, 4] rfl)
                  · have h := hf_ c_
                    exact bX9_movesUp_93 X hr hlk hK8 hK18 M_5 x2 x3 x5 _ _ _ h hw (lv_sub hl [0, 1, 2, 4] rfl)
def vX9_movesUp_8 (Q : Sg → Int32 → Prop) : Nat → Sg → Int32 → Int32 → Prop
  | 0, _, _, _ => False
  | f8_ + 1, M, x2, x3 => ((x3 < 0 → (Q M x2)) ∧ (¬ x3 < 0 → (∃ g18_ : Nat, vX9_movesUp_18 (vX9_movesUp_8 Q f8_) Q g18_ M x2 x3 (-1 : Int32) (0 : Int32))))
set_option maxHeartbeats 4000000 in
set_option maxRecDepth 100000 in
theorem bX9_movesUp_8 {p : Program} {l : Launch} {e : Env} {s : State} {m : MethodId} {args : Array Value} {below : List Frame} {meth : Method} {c : Code} {D : va_G} {κ : Nat → ClassId} {η : Nat → Nat} {σ : (Nat → Nat) × (Nat → Nat)} {A : Nat → Prop} {Q : Sg → Int32 → Prop} (X : CallFix p m c cX9_movesUp 6 s args wsX9_movesUp RX9) (hr : meth.sig.returnType = (some .int)) (hlk : meth.locks = false) : ∀ (f_ : Nat) (M : Sg) (x2 : Int32) (x3 : Int32) (H : Heap) (locs : List Loc) (ls : Array Slot), vX9_movesUp_8 Q f_ M x2 x3 → Wd (cN σ) D (Ky κ) A s (mw κ η M) H locs → lv_has ls 6 [(0, .ref (η 0)), (2, .int x2), (3, .int x3)] → W p l e rmX9_movesUp s m args below meth c H locs 0 0 (MQ below (Qi D (Ky κ) (mw κ η) A Q) args s 0 0 A) (F0 m 8 ls []) := by
  intro f_
  induction f_ with
  | zero => intro M x2 x3 H locs ls h; exact h.elim
  | succ f_ hK8 =>
    intro M x2 x3 H locs ls h hw hl
    refine lv_iload_n X.1 X.2.1 dX9_movesUp_8 rfl (lv_at hl 2 rfl) ?_
    obtain ⟨ht_, hf_⟩ := h
    refine lv_if_lt (tgt := 158) X.1 X.2.1 dX9_movesUp_9 (by decide) (fun c_ => ?_) (fun c_ => ?_)
    · have h := ht_ c_
      refine lv_iload_n X.1 X.2.1 dX9_movesUp_158 rfl (lv_at hl 1 rfl) ?_
      exact r_ret X hr hlk hw h dX9_movesUp_159
    · have h := hf_ c_
      refine lv_iconst (v := (-1 : Int32)) X.1 X.2.1 dX9_movesUp_12 (by decide) ?_
      refine lv_istore (lv' := [(4, .int (-1 : Int32)), (0, .ref (η 0)), (2, .int x2), (3, .int x3)]) X.1 X.2.1 dX9_movesUp_13 hl (by decide) rfl (fun ls hl => ?_)
      refine lv_iconst (v := (0 : Int32)) X.1 X.2.1 dX9_movesUp_15 (by decide) ?_
      refine lv_istore (lv' := [(5, .int (0 : Int32)), (4, .int (-1 : Int32)), (0, .ref (η 0)), (2, .int x2), (3, .int x3)]) X.1 X.2.1 dX9_movesUp_16 hl (by decide) rfl (fun ls hl => ?_)
      obtain ⟨f_, h⟩ := h
      exact bX9_movesUp_18 X hr hlk hK8 f_ M x2 x3 (-1 : Int32) (0 : Int32) _ _ _ h hw (lv_sub hl [2, 3, 4, 1, 0] rfl)
def wX9_movesUp (M : Sg) (a1 : Int32) (Q : Sg → Int32 → Prop) : Prop := (wX9_findRanks M (fun M_1 => (∃ g8_ : Nat, vX9_movesUp_8 Q g8_ M_1 (0 : Int32) a1)))
set_option maxHeartbeats 4000000 in
set_option maxRecDepth 100000 in
theorem kX9_movesUp {l : Launch} {D : va_G} {κ : Nat → ClassId} {η : Nat → Nat} {σ : (Nat → Nat) × (Nat → Nat)} {M : Sg} {a1 : Int32} {Q : Sg → Int32 → Prop} (h : wX9_movesUp M a1 Q) : Ki (cN σ) D (Ky κ) (mw κ η) l yX9_movesUp wsX9_movesUp rmX9_movesUp [.ref (η 0), .int a1] M Q := by
  refine ofW_g (Qc := fun A => Qi D (Ky κ) (mw κ η) A Q) (cc := cX9_movesUp) (maxL := 6) (ret := (some .int)) (by decide) rfl (Nat.le_of_ble_eq_true rfl) ?_
  intro p e s m args below meth c A ls X hr hlk hw hl
  have hl : lv_has ls 6 [(0, .ref (η 0)), (1, .int a1)] := hl
  refine lv_aload_n X.1 X.2.1 dX9_movesUp_0 rfl (lv_at hl 0 rfl) ?_
  refine r_Vv (As := []) (rest := []) X cN_ok (kX9_findRanks h) (cwV 0 X.2.2.2.2 gX9_movesUp_X9_findRanks rfl rfl rfl (by decide +kernel) ⟨Nat.le_of_ble_eq_true rfl, Nat.le_of_ble_eq_true rfl⟩) hw 0 8 rfl rfl rfl hl.1 rfl (Nat.le_of_ble_eq_true rfl) dX9_movesUp_1 (fun M_1 H locs h hw => ?_)
  refine lv_iconst (v := (0 : Int32)) X.1 X.2.1 dX9_movesUp_4 (by decide) ?_
  refine lv_istore_n (lv' := [(2, .int (0 : Int32)), (0, .ref (η 0)), (1, .int a1)]) X.1 X.2.1 dX9_movesUp_5 rfl hl (by decide) rfl (fun ls hl => ?_)
  refine lv_iload_n X.1 X.2.1 dX9_movesUp_6 rfl (lv_at hl 2 rfl) ?_
  refine lv_istore_n (lv' := [(3, .int a1), (2, .int (0 : Int32)), (0, .ref (η 0)), (1, .int a1)]) X.1 X.2.1 dX9_movesUp_7 rfl hl (by decide) rfl (fun ls hl => ?_)
  obtain ⟨f_, h⟩ := h
  exact bX9_movesUp_8 X hr hlk f_ M_1 (0 : Int32) a1 _ _ _ h hw (lv_sub hl [2, 1, 0] rfl)

theorem inX9_cancel_X9 : ∀ w ∈ wsX90, w ∈ wsX9_cancel := fun w h => List.mem_cons_of_mem _ (List.mem_append_right _ h)
abbrev rmX9_cancel : Room := { frames := 4, cells := 0, slots := 0, locals := 94 }
def wX9_cancel (M : Sg) (a1 : Int32) (Q : Sg → Int32 → Prop) : Prop := (∀ (M_1 : Sg), M_1 = sI M 0 (0 : Int32) → (wX9_isLearner M_1 a1 (fun M_2 r_3 => ((r_3 = 0 → (Q M_2 (-1 : Int32))) ∧ (¬ r_3 = 0 → (vp_in a1 60 ∧ (((gA M_2 38 a1.toNatClampNeg) = (1 : Int32) → (vp_in a1 60 ∧ (∀ (x_4 : Int32), x_4 = (gA M_2 39 a1.toNatClampNeg) → (wX9_waits M_2 a1 (fun M_5 => (wX9_movesUp M_5 x_4 (fun M_7 r_8 => (Q M_7 r_8)))))))) ∧ (¬ (gA M_2 38 a1.toNatClampNeg) = (1 : Int32) → (Q M_2 (-1 : Int32))))))))))
set_option maxHeartbeats 4000000 in
set_option maxRecDepth 100000 in
theorem kX9_cancel {l : Launch} {D : va_G} {κ : Nat → ClassId} {η : Nat → Nat} {σ : (Nat → Nat) × (Nat → Nat)} {M : Sg} {a1 : Int32} {Q : Sg → Int32 → Prop} (h : wX9_cancel M a1 Q) : Ki (cN σ) D (Ky κ) (mw κ η) l yX9_cancel wsX9_cancel rmX9_cancel [.ref (η 0), .int a1] M Q := by
  refine ofW_g (Qc := fun A => Qi D (Ky κ) (mw κ η) A Q) (cc := cX9_cancel) (maxL := 3) (ret := (some .int)) (by decide) rfl (Nat.le_of_ble_eq_true rfl) ?_
  intro p e s m args below meth c A ls X hr hlk hw hl
  have hl : lv_has ls 3 [(0, .ref (η 0)), (1, .int a1)] := hl
  refine lv_aload_n X.1 X.2.1 dX9_cancel_0 rfl (lv_at hl 0 rfl) ?_
  refine lv_iconst (v := (0 : Int32)) X.1 X.2.1 dX9_cancel_1 (by decide) ?_
  refine r_pf (ty := .int) (w' := mw κ η (sI M 0 (0 : Int32))) X inX9_cancel_X9 tyX9_ok nmX9 hw 0 rfl rfl 0 (by decide) (X.2.2.2.2 (.fieldLink RX9 1 "TestHallModel" "thrown" "I") (by decide +kernel)) rfl rfl (by decide +kernel) rfl rfl (Nat.le_of_ble_eq_true rfl) rfl dX9_cancel_2 (fun H locs hw => ?_)
  obtain ⟨M_1, eM_1⟩ : ∃ y : Sg, y = sI M 0 (0 : Int32) := ⟨_, rfl⟩
  rw [← eM_1] at hw
  have h := h M_1 eM_1
  refine lv_aload_n X.1 X.2.1 dX9_cancel_5 rfl (lv_at hl 0 rfl) ?_
  refine lv_iload_n X.1 X.2.1 dX9_cancel_6 rfl (lv_at hl 1 rfl) ?_
  refine r_Vi (As := [.int a1]) (rest := []) X cN_ok (kX9_isLearner h) (cwV 1 X.2.2.2.2 gX9_cancel_X9_isLearner rfl rfl rfl (by decide +kernel) ⟨Nat.le_of_ble_eq_true rfl, Nat.le_of_ble_eq_true rfl⟩) hw 0 8 rfl rfl rfl hl.1 rfl (Nat.le_of_ble_eq_true rfl) dX9_cancel_7 (fun r_3 M_2 H locs h hw => ?_)
  obtain ⟨ht_, hf_⟩ := h
  refine lv_if_eq (tgt := 23) X.1 X.2.1 dX9_cancel_10 (by decide) (fun c_ => ?_) (fun c_ => ?_)
  · have h := ht_ c_
    refine lv_iconst (v := (-1 : Int32)) X.1 X.2.1 dX9_cancel_23 (by decide) ?_
    exact r_ret X hr hlk hw h dX9_cancel_24
  · have h := hf_ c_
    refine lv_aload_n X.1 X.2.1 dX9_cancel_13 rfl (lv_at hl 0 rfl) ?_
    refine r_gf X inX9_cancel_X9 hw 0 rfl rfl 38 (by decide) (X.2.2.2.2 (.fieldLink RX9 119 "TestHallModel" "state" "[I") (by decide +kernel)) rfl rfl dX9_cancel_14 ?_
    refine lv_iload_n X.1 X.2.1 dX9_cancel_17 rfl (lv_at hl 1 rfl) ?_
    obtain ⟨hi_, h⟩ := h
    refine r_ial X hw 27 0 rfl rfl hi_ dX9_cancel_18 ?_
    refine lv_iconst (v := (1 : Int32)) X.1 X.2.1 dX9_cancel_19 (by decide) ?_
    obtain ⟨ht_, hf_⟩ := h
    refine lv_icmp_eq (tgt := 25) X.1 X.2.1 dX9_cancel_20 (by decide) (fun c_ => ?_) (fun c_ => ?_)
    · have h := ht_ c_
      refine lv_aload_n X.1 X.2.1 dX9_cancel_25 rfl (lv_at hl 0 rfl) ?_
      refine r_gf X inX9_cancel_X9 hw 0 rfl rfl 39 (by decide) (X.2.2.2.2 (.fieldLink RX9 122 "TestHallModel" "slot" "[I") (by decide +kernel)) rfl rfl dX9_cancel_26 ?_
      refine lv_iload_n X.1 X.2.1 dX9_cancel_29 rfl (lv_at hl 1 rfl) ?_
      obtain ⟨hi_, h⟩ := h
      refine r_ial X hw 28 0 rfl rfl hi_ dX9_cancel_30 ?_
      refine lv_topi (fun x_4 ex_4 => ?_)
      have h := h x_4 ex_4
      refine lv_istore_n (lv' := [(2, .int x_4), (0, .ref (η 0)), (1, .int a1)]) X.1 X.2.1 dX9_cancel_31 rfl hl (by decide) rfl (fun ls hl => ?_)
      refine lv_aload_n X.1 X.2.1 dX9_cancel_32 rfl (lv_at hl 1 rfl) ?_
      refine lv_iload_n X.1 X.2.1 dX9_cancel_33 rfl (lv_at hl 2 rfl) ?_
      refine r_Vv (As := [.int a1]) (rest := []) X cN_ok (kX9_waits h) (cwV 1 X.2.2.2.2 gX9_cancel_X9_waits rfl rfl rfl (by decide +kernel) ⟨Nat.le_of_ble_eq_true rfl, Nat.le_of_ble_eq_true rfl⟩) hw 0 8 rfl rfl rfl hl.1 rfl (Nat.le_of_ble_eq_true rfl) dX9_cancel_34 (fun M_5 H locs h hw => ?_)
      refine lv_aload_n X.1 X.2.1 dX9_cancel_37 rfl (lv_at hl 1 rfl) ?_
      refine lv_iload_n X.1 X.2.1 dX9_cancel_38 rfl (lv_at hl 0 rfl) ?_
      refine r_Vi (As := [.int x_4]) (rest := []) X cN_ok (kX9_movesUp h) (cwV 1 X.2.2.2.2 gX9_cancel_X9_movesUp rfl rfl rfl (by decide +kernel) ⟨Nat.le_of_ble_eq_true rfl, Nat.le_of_ble_eq_true rfl⟩) hw 0 8 rfl rfl rfl hl.1 rfl (Nat.le_of_ble_eq_true rfl) dX9_cancel_39 (fun r_8 M_7 H locs h hw => ?_)
      exact r_ret X hr hlk hw h dX9_cancel_42
    · have h := hf_ c_
      refine lv_iconst (v := (-1 : Int32)) X.1 X.2.1 dX9_cancel_23 (by decide) ?_
      exact r_ret X hr hlk hw h dX9_cancel_24

theorem inX9_leave_X9 : ∀ w ∈ wsX90, w ∈ wsX9_leave := fun w h => List.mem_cons_of_mem _ (List.mem_append_right _ h)
abbrev rmX9_leave : Room := { frames := 4, cells := 0, slots := 0, locals := 94 }
def wX9_leave (M : Sg) (a1 : Int32) (Q : Sg → Int32 → Prop) : Prop := (∀ (M_1 : Sg), M_1 = sI M 0 (0 : Int32) → (wX9_isLearner M_1 a1 (fun M_2 r_3 => ((r_3 = 0 → (Q M_2 (0 : Int32))) ∧ (¬ r_3 = 0 → (vp_in a1 60 ∧ (((gA M_2 38 a1.toNatClampNeg) ≤ (1 : Int32) → (vp_in a1 60 ∧ (∀ (x_4 : Int32), x_4 = (gA M_2 39 a1.toNatClampNeg) → (vp_in a1 60 ∧ (∀ (M_5 : Sg), M_5 = sA M_2 38 a1.toNatClampNeg (3 : Int32) → (vp_in a1 60 ∧ (∀ (M_6 : Sg), M_6 = sA M_5 39 a1.toNatClampNeg (-1 : Int32) → ((x_4 < 0 → (Q M_6 (1 : Int32))) ∧ (¬ x_4 < 0 → (wX9_movesUp M_6 x_4 (fun M_7 r_8 => (Q M_7 (1 : Int32))))))))))))) ∧ (¬ (gA M_2 38 a1.toNatClampNeg) ≤ (1 : Int32) → (Q M_2 (0 : Int32))))))))))
set_option maxHeartbeats 4000000 in
set_option maxRecDepth 100000 in
theorem kX9_leave {l : Launch} {D : va_G} {κ : Nat → ClassId} {η : Nat → Nat} {σ : (Nat → Nat) × (Nat → Nat)} {M : Sg} {a1 : Int32} {Q : Sg → Int32 → Prop} (h : wX9_leave M a1 Q) : Ki (cN σ) D (Ky κ) (mw κ η) l yX9_leave wsX9_leave rmX9_leave [.ref (η 0), .int a1] M Q := by
  refine ofW_g (Qc := fun A => Qi D (Ky κ) (mw κ η) A Q) (cc := cX9_leave) (maxL := 4) (ret := (some .boolean)) (by decide) rfl (Nat.le_of_ble_eq_true rfl) ?_
  intro p e s m args below meth c A ls X hr hlk hw hl
  have hl : lv_has ls 4 [(0, .ref (η 0)), (1, .int a1)] := hl
  refine lv_aload_n X.1 X.2.1 dX9_leave_0 rfl (lv_at hl 0 rfl) ?_
  refine lv_iconst (v := (0 : Int32)) X.1 X.2.1 dX9_leave_1 (by decide) ?_
  refine r_pf (ty := .int) (w' := mw κ η (sI M 0 (0 : Int32))) X inX9_leave_X9 tyX9_ok nmX9 hw 0 rfl rfl 0 (by decide) (X.2.2.2.2 (.fieldLink RX9 1 "TestHallModel" "thrown" "I") (by decide +kernel)) rfl rfl (by decide +kernel) rfl rfl (Nat.le_of_ble_eq_true rfl) rfl dX9_leave_2 (fun H locs hw => ?_)
  obtain ⟨M_1, eM_1⟩ : ∃ y : Sg, y = sI M 0 (0 : Int32) := ⟨_, rfl⟩
  rw [← eM_1] at hw
  have h := h M_1 eM_1
  refine lv_aload_n X.1 X.2.1 dX9_leave_5 rfl (lv_at hl 0 rfl) ?_
  refine lv_iload_n X.1 X.2.1 dX9_leave_6 rfl (lv_at hl 1 rfl) ?_
  refine r_Vi (As := [.int a1]) (rest := []) X cN_ok (kX9_isLearner h) (cwV 1 X.2.2.2.2 gX9_leave_X9_isLearner rfl rfl rfl (by decide +kernel) ⟨Nat.le_of_ble_eq_true rfl, Nat.le_of_ble_eq_true rfl⟩) hw 0 8 rfl rfl rfl hl.1 rfl (Nat.le_of_ble_eq_true rfl) dX9_leave_7 (fun r_3 M_2 H locs h hw => ?_)
  obtain ⟨ht_, hf_⟩ := h
  refine lv_if_eq (tgt := 23) X.1 X.2.1 dX9_leave_10 (by decide) (fun c_ => ?_) (fun c_ => ?_)
  · have h := ht_ c_
    refine lv_iconst (v := (0 : Int32)) X.1 X.2.1 dX9_leave_23 (by decide) ?_
    exact r_zret X hr hlk hw rfl h dX9_leave_24
  · have h := hf_ c_
    refine lv_aload_n X.1 X.2.1 dX9_leave_13 rfl (lv_at hl 0 rfl) ?_
    refine r_gf X inX9_leave_X9 hw 0 rfl rfl 38 (by decide) (X.2.2.2.2 (.fieldLink RX9 119 "TestHallModel" "state" "[I") (by decide +kernel)) rfl rfl dX9_leave_14 ?_
    refine lv_iload_n X.1 X.2.1 dX9_leave_17 rfl (lv_at hl 1 rfl) ?_
    obtain ⟨hi_, h⟩ := h
    refine r_ial X hw 27 0 rfl rfl hi_ dX9_leave_18 ?_
    refine lv_iconst (v := (1 : Int32)) X.1 X.2.1 dX9_leave_19 (by decide) ?_
    obtain ⟨ht_, hf_⟩ := h
    refine lv_icmp_le (tgt := 25) X.1 X.2.1 dX9_leave_20 (by decide) (fun c_ => ?_) (fun c_ => ?_)
    · have h := ht_ c_
      refine lv_aload_n X.1 X.2.1 dX9_leave_25 rfl (lv_at hl 0 rfl) ?_
      refine r_gf X inX9_leave_X9 hw 0 rfl rfl 39 (by decide) (X.2.2.2.2 (.fieldLink RX9 122 "TestHallModel" "slot" "[I") (by decide +kernel)) rfl rfl dX9_leave_26 ?_
      refine lv_iload_n X.1 X.2.1 dX9_leave_29 rfl (lv_at hl 1 rfl) ?_
      obtain ⟨hi_, h⟩ := h
      refine r_ial X hw 28 0 rfl rfl hi_ dX9_leave_30 ?_
      refine lv_topi (fun x_4 ex_4 => ?_)
      have h := h x_4 ex_4
      refine lv_istore_n (lv' := [(2, .int x_4), (0, .ref (η 0)), (1, .int a1)]) X.1 X.2.1 dX9_leave_31 rfl hl (by decide) rfl (fun ls hl => ?_)
      refine lv_aload_n X.1 X.2.1 dX9_leave_32 rfl (lv_at hl 1 rfl) ?_
      refine r_gf X inX9_leave_X9 hw 0 rfl rfl 38 (by decide) (X.2.2.2.2 (.fieldLink RX9 119 "TestHallModel" "state" "[I") (by decide +kernel)) rfl rfl dX9_leave_33 ?_
      refine lv_iload_n X.1 X.2.1 dX9_leave_36 rfl (lv_at hl 2 rfl) ?_
      refine lv_iconst (v := (3 : Int32)) X.1 X.2.1 dX9_leave_37 (by decide) ?_
      obtain ⟨hi_, h⟩ := h
      refine r_ias (w' := mw κ η (sA M_2 38 a1.toNatClampNeg (3 : Int32))) X hw 27 0 rfl rfl hi_ rfl dX9_leave_38 (fun H locs hw => ?_)
      obtain ⟨M_5, eM_5⟩ : ∃ y : Sg, y = sA M_2 38 a1.toNatClampNeg (3 : Int32) := ⟨_, rfl⟩
      rw [← eM_5] at hw
      have h := h M_5 eM_5
      refine lv_aload_n X.1 X.2.1 dX9_leave_39 rfl (lv_at hl 1 rfl) ?_
      refine r_gf X inX9_leave_X9 hw 0 rfl rfl 39 (by decide) (X.2.2.2.2 (.fieldLink RX9 122 "TestHallModel" "slot" "[I") (by decide +kernel)) rfl rfl dX9_leave_40 ?_
      refine lv_iload_n X.1 X.2.1 dX9_leave_43 rfl (lv_at hl 2 rfl) ?_
      refine lv_iconst (v := (-1 : Int32)) X.1 X.2.1 dX9_leave_44 (by decide) ?_
      obtain ⟨hi_, h⟩ := h
      refine r_ias (w' := mw κ η (sA M_5 39 a1.toNatClampNeg (-1 : Int32))) X hw 28 0 rfl rfl hi_ rfl dX9_leave_45 (fun H locs hw => ?_)
      obtain ⟨M_6, eM_6⟩ : ∃ y : Sg, y = sA M_5 39 a1.toNatClampNeg (-1 : Int32) := ⟨_, rfl⟩
      rw [← eM_6] at hw
      have h := h M_6 eM_6
      refine lv_iload_n X.1 X.2.1 dX9_leave_46 rfl (lv_at hl 0 rfl) ?_
      obtain ⟨ht_, hf_⟩ := h
      refine lv_if_lt (tgt := 56) X.1 X.2.1 dX9_leave_47 (by decide) (fun c_ => ?_) (fun c_ => ?_)
      · have h := ht_ c_
        refine lv_iconst (v := (1 : Int32)) X.1 X.2.1 dX9_leave_56 (by decide) ?_
        exact r_zret X hr hlk hw rfl h dX9_leave_57
      · have h := hf_ c_
        refine lv_aload_n X.1 X.2.1 dX9_leave_50 rfl (lv_at hl 1 rfl) ?_
        refine lv_iload_n X.1 X.2.1 dX9_leave_51 rfl (lv_at hl 0 rfl) ?_
        refine r_Vi (As := [.int x_4]) (rest := []) X cN_ok (kX9_movesUp h) (cwV 1 X.2.2.2.2 gX9_leave_X9_movesUp rfl rfl rfl (by decide +kernel) ⟨Nat.le_of_ble_eq_true rfl, Nat.le_of_ble_eq_true rfl⟩) hw 0 8 rfl rfl rfl hl.1 rfl (Nat.le_of_ble_eq_true rfl) dX9_leave_52 (fun r_8 M_7 H locs h hw => ?_)
        refine lv_istore_n (lv' := [(3, .int r_8), (2, .int x_4), (0, .ref (η 0)), (1, .int a1)]) X.1 X.2.1 dX9_leave_55 rfl hl (by decide) rfl (fun ls hl => ?_)
        refine lv_iconst (v := (1 : Int32)) X.1 X.2.1 dX9_leave_56 (by decide) ?_
        exact r_zret X hr hlk hw rfl h dX9_leave_57
    · have h := hf_ c_
      refine lv_iconst (v := (0 : Int32)) X.1 X.2.1 dX9_leave_23 (by decide) ?_
      exact r_zret X hr hlk hw rfl h dX9_leave_24

theorem inX9_place_X9 : ∀ w ∈ wsX90, w ∈ wsX9_place := fun w h => List.mem_cons_of_mem _ (List.mem_append_right _ h)
abbrev rmX9_place : Room := { frames := 2, cells := 0, slots := 0, locals := 46 }
def vX9_place_172 (K85 : Sg → Int32 → Int32 → Int32 → Prop) (Q : Sg → Int32 → Prop) (M : Sg) (x1 : Int32) (x5 : Int32) (x6 : Int32) : Prop := (∀ (x_1 : Int32), x_1 = x6 + (1 : Int32) → (K85 M x1 x5 x_1))
set_option maxHeartbeats 4000000 in
set_option maxRecDepth 100000 in
theorem bX9_place_172 {p : Program} {l : Launch} {e : Env} {s : State} {m : MethodId} {args : Array Value} {below : List Frame} {meth : Method} {c : Code} {D : va_G} {κ : Nat → ClassId} {η : Nat → Nat} {σ : (Nat → Nat) × (Nat → Nat)} {A : Nat → Prop} {Q : Sg → Int32 → Prop} {K85 : Sg → Int32 → Int32 → Int32 → Prop} (X : CallFix p m c cX9_place 7 s args wsX9_place RX9) (hr : meth.sig.returnType = (some .int)) (hlk : meth.locks = false) (hK85 : ∀ (M : Sg) (x1 : Int32) (x5 : Int32) (x6 : Int32) (H : Heap) (locs : List Loc) (ls : Array Slot), K85 M x1 x5 x6 → Wd (cN σ) D (Ky κ) A s (mw κ η M) H locs → lv_has ls 7 [(0, .ref (η 0)), (1, .int x1), (5, .int x5), (6, .int x6)] → W p l e rmX9_place s m args below meth c H locs 0 0 (MQ below (Qi D (Ky κ) (mw κ η) A Q) args s 0 0 A) (F0 m 85 ls [])) : ∀ (M : Sg) (x1 : Int32) (x5 : Int32) (x6 : Int32) (H : Heap) (locs : List Loc) (ls : Array Slot), vX9_place_172 K85 Q M x1 x5 x6 → Wd (cN σ) D (Ky κ) A s (mw κ η M) H locs → lv_has ls 7 [(0, .ref (η 0)), (1, .int x1), (5, .int x5), (6, .int x6)] → W p l e rmX9_place s m args below meth c H locs 0 0 (MQ below (Qi D (Ky κ) (mw κ η) A Q) args s 0 0 A) (F0 m 172 ls []) := by
  intro M x1 x5 x6 H locs ls h hw hl
  obtain ⟨x_1, ex_1⟩ : ∃ y : Int32, y = x6 + (1 : Int32) := ⟨_, rfl⟩
  have h := h x_1 ex_1
  refine lv_iinc (v := x_1) (lv' := [(6, .int x_1), (0, .ref (η 0)), (1, .int x1), (5, .int x5)]) X.1 X.2.1 dX9_place_172 hl (k := 3) rfl (by rw [ex_1]; rfl) (by decide) rfl (fun ls hl => ?_)
  refine lv_goto (tgt := 85) X.1 X.2.1 dX9_place_175 (by decide) ?_
  exact hK85 M x1 x5 x_1 _ _ _ h hw (lv_sub hl [1, 2, 3, 0] rfl)
def vX9_place_163 (K85 : Sg → Int32 → Int32 → Int32 → Prop) (Q : Sg → Int32 → Prop) (M : Sg) (x1 : Int32) (x5 : Int32) (x6 : Int32) : Prop := (wX9_waits M x6 (fun M_1 => (∀ (x_3 : Int32), x_3 = x5 + (1 : Int32) → (vX9_place_172 K85 Q M_1 x1 x_3 x6))))
set_option maxHeartbeats 4000000 in
set_option maxRecDepth 100000 in
theorem bX9_place_163 {p : Program} {l : Launch} {e : Env} {s : State} {m : MethodId} {args : Array Value} {below : List Frame} {meth : Method} {c : Code} {D : va_G} {κ : Nat → ClassId} {η : Nat → Nat} {σ : (Nat → Nat) × (Nat → Nat)} {A : Nat → Prop} {Q : Sg → Int32 → Prop} {K85 : Sg → Int32 → Int32 → Int32 → Prop} (X : CallFix p m c cX9_place 7 s args wsX9_place RX9) (hr : meth.sig.returnType = (some .int)) (hlk : meth.locks = false) (hK85 : ∀ (M : Sg) (x1 : Int32) (x5 : Int32) (x6 : Int32) (H : Heap) (locs : List Loc) (ls : Array Slot), K85 M x1 x5 x6 → Wd (cN σ) D (Ky κ) A s (mw κ η M) H locs → lv_has ls 7 [(0, .ref (η 0)), (1, .int x1), (5, .int x5), (6, .int x6)] → W p l e rmX9_place s m args below meth c H locs 0 0 (MQ below (Qi D (Ky κ) (mw κ η) A Q) args s 0 0 A) (F0 m 85 ls [])) : ∀ (M : Sg) (x1 : Int32) (x5 : Int32) (x6 : Int32) (H : Heap) (locs : List Loc) (ls : Array Slot), vX9_place_163 K85 Q M x1 x5 x6 → Wd (cN σ) D (Ky κ) A s (mw κ η M) H locs → lv_has ls 7 [(0, .ref (η 0)), (1, .int x1), (5, .int x5), (6, .int x6)] → W p l e rmX9_place s m args below meth c H locs 0 0 (MQ below (Qi D (Ky κ) (mw κ η) A Q) args s 0 0 A) (F0 m 163 ls []) := by
  intro M x1 x5 x6 H locs ls h hw hl
  refine lv_aload_n X.1 X.2.1 dX9_place_163 rfl (lv_at hl 0 rfl) ?_
  refine lv_iload X.1 X.2.1 dX9_place_164 (lv_at hl 3 rfl) ?_
  refine r_Vv (As := [.int x6]) (rest := []) X cN_ok (kX9_waits h) (cwV 1 X.2.2.2.2 gX9_place_X9_waits rfl rfl rfl (by decide +kernel) ⟨Nat.le_of_ble_eq_true rfl, Nat.le_of_ble_eq_true rfl⟩) hw 0 8 rfl rfl rfl hl.1 rfl (Nat.le_of_ble_eq_true rfl) dX9_place_166 (fun M_1 H locs h hw => ?_)
  obtain ⟨x_3, ex_3⟩ : ∃ y : Int32, y = x5 + (1 : Int32) := ⟨_, rfl⟩
  have h := h x_3 ex_3
  refine lv_iinc (v := x_3) (lv' := [(5, .int x_3), (0, .ref (η 0)), (1, .int x1), (6, .int x6)]) X.1 X.2.1 dX9_place_169 hl (k := 2) rfl (by rw [ex_3]; rfl) (by decide) rfl (fun ls hl => ?_)
  exact bX9_place_172 X hr hlk hK85 M_1 x1 x_3 x6 _ _ _ h hw (lv_sub hl [1, 2, 0, 3] rfl)
def vX9_place_85 (Q : Sg → Int32 → Prop) : Nat → Sg → Int32 → Int32 → Int32 → Prop
  | 0, _, _, _, _ => False
  | f85_ + 1, M, x1, x5, x6 => (((gI M 30) ≤ x6 → (Q M x5)) ∧ (¬ (gI M 30) ≤ x6 → (vp_in x6 60 ∧ ((¬ (gA M 38 x6.toNatClampNeg) = (1 : Int32) → (vX9_place_172 (vX9_place_85 Q f85_) Q M x1 x5 x6)) ∧ ((gA M 38 x6.toNatClampNeg) = (1 : Int32) → (vp_in x6 60 ∧ ((¬ ((gA M 39 x6.toNatClampNeg) - (gA M 39 x6.toNatClampNeg) / (8 : Int32) * (8 : Int32)) = x1 → (vX9_place_172 (vX9_place_85 Q f85_) Q M x1 x5 x6)) ∧ (((gA M 39 x6.toNatClampNeg) - (gA M 39 x6.toNatClampNeg) / (8 : Int32) * (8 : Int32)) = x1 → (vp_in x6 60 ∧ (wX9_isThere M (gA M 39 x6.toNatClampNeg) (fun M_1 r_2 => ((r_2 = 0 → (vX9_place_163 (vX9_place_85 Q f85_) Q M_1 x1 x5 x6)) ∧ (¬ r_2 = 0 → (vp_in x6 60 ∧ (vp_in (((60 : Int32) * x1) + ((gA M_1 39 x6.toNatClampNeg) / (48 : Int32))) 480 ∧ (vp_in x6 60 ∧ (((gA M_1 26 (((60 : Int32) * x1) + ((gA M_1 39 x6.toNatClampNeg) / (48 : Int32))).toNatClampNeg) = (gA M_1 31 x6.toNatClampNeg) → (vX9_place_172 (vX9_place_85 Q f85_) Q M_1 x1 x5 x6)) ∧ (¬ (gA M_1 26 (((60 : Int32) * x1) + ((gA M_1 39 x6.toNatClampNeg) / (48 : Int32))).toNatClampNeg) = (gA M_1 31 x6.toNatClampNeg) → (vX9_place_163 (vX9_place_85 Q f85_) Q M_1 x1 x5 x6)))))))))))))))))))
set_option maxHeartbeats 4000000 in
set_option maxRecDepth 100000 in
theorem bX9_place_85 {p : Program} {l : Launch} {e : Env} {s : State} {m : MethodId} {args : Array Value} {below : List Frame} {meth : Method} {c : Code} {D : va_G} {κ : Nat → ClassId} {η : Nat → Nat} {σ : (Nat → Nat) × (Nat → Nat)} {A : Nat → Prop} {Q : Sg → Int32 → Prop} (X : CallFix p m c cX9_place 7 s args wsX9_place RX9) (hr : meth.sig.returnType = (some .int)) (hlk : meth.locks = false) : ∀ (f_ : Nat) (M : Sg) (x1 : Int32) (x5 : Int32) (x6 : Int32) (H : Heap) (locs : List Loc) (ls : Array Slot), vX9_place_85 Q f_ M x1 x5 x6 → Wd (cN σ) D (Ky κ) A s (mw κ η M) H locs → lv_has ls 7 [(0, .ref (η 0)), (1, .int x1), (5, .int x5), (6, .int x6)] → W p l e rmX9_place s m args below meth c H locs 0 0 (MQ below (Qi D (Ky κ) (mw κ η) A Q) args s 0 0 A) (F0 m 85 ls []) := by
  intro f_
  induction f_ with
  | zero => intro M x1 x5 x6 H locs ls h; exact h.elim
  | succ f_ hK85 =>
    intro M x1 x5 x6 H locs ls h hw hl
    refine lv_iload X.1 X.2.1 dX9_place_85 (lv_at hl 3 rfl) ?_
    refine lv_aload_n X.1 X.2.1 dX9_place_87 rfl (lv_at hl 0 rfl) ?_
    refine r_gf X inX9_place_X9 hw 0 rfl rfl 30 (by decide) (X.2.2.2.2 (.fieldLink RX9 256 "TestHallModel" "learners" "I") (by decide +kernel)) rfl rfl dX9_place_88 ?_
    obtain ⟨ht_, hf_⟩ := h
    refine lv_icmp_ge (tgt := 178) X.1 X.2.1 dX9_place_91 (by decide) (fun c_ => ?_) (fun c_ => ?_)
    · have h := ht_ c_
      refine lv_iload X.1 X.2.1 dX9_place_178 (lv_at hl 2 rfl) ?_
      exact r_ret X hr hlk hw h dX9_place_180
    · have h := hf_ c_
      refine lv_aload_n X.1 X.2.1 dX9_place_94 rfl (lv_at hl 0 rfl) ?_
      refine r_gf X inX9_place_X9 hw 0 rfl rfl 38 (by decide) (X.2.2.2.2 (.fieldLink RX9 119 "TestHallModel" "state" "[I") (by decide +kernel)) rfl rfl dX9_place_95 ?_
      refine lv_iload X.1 X.2.1 dX9_place_98 (lv_at hl 3 rfl) ?_
      obtain ⟨hi_, h⟩ := h
      refine r_ial X hw 27 0 rfl rfl hi_ dX9_place_100 ?_
      refine lv_iconst (v := (1 : Int32)) X.1 X.2.1 dX9_place_101 (by decide) ?_
      obtain ⟨ht_, hf_⟩ := h
      refine lv_icmp_ne (tgt := 172) X.1 X.2.1 dX9_place_102 (by decide) (fun c_ => ?_) (fun c_ => ?_)
      · have h := ht_ c_
        exact bX9_place_172 X hr hlk hK85 M x1 x5 x6 _ _ _ h hw (lv_sub hl [0, 1, 2, 3] rfl)
      · have h := hf_ c_
        refine lv_aload_n X.1 X.2.1 dX9_place_105 rfl (lv_at hl 0 rfl) ?_
        refine r_gf X inX9_place_X9 hw 0 rfl rfl 39 (by decide) (X.2.2.2.2 (.fieldLink RX9 122 "TestHallModel" "slot" "[I") (by decide +kernel)) rfl rfl dX9_place_106 ?_
        refine lv_iload X.1 X.2.1 dX9_place_109 (lv_at hl 3 rfl) ?_
        obtain ⟨hi_, h⟩ := h
        refine r_ial X hw 28 0 rfl rfl hi_ dX9_place_111 ?_
        refine lv_bipush (v := (8 : Int32)) X.1 X.2.1 dX9_place_112 (by decide) ?_
        refine lv_irem X.1 X.2.1 dX9_place_114 (by decide) ?_
        refine lv_iload_n X.1 X.2.1 dX9_place_115 rfl (lv_at hl 1 rfl) ?_
        obtain ⟨ht_, hf_⟩ := h
        refine lv_icmp_ne (tgt := 172) X.1 X.2.1 dX9_place_116 (by decide) (fun c_ => ?_) (fun c_ => ?_)
        · have h := ht_ c_
          exact bX9_place_172 X hr hlk hK85 M x1 x5 x6 _ _ _ h hw (lv_sub hl [0, 1, 2, 3] rfl)
        · have h := hf_ c_
          refine lv_aload_n X.1 X.2.1 dX9_place_119 rfl (lv_at hl 0 rfl) ?_
          refine lv_aload_n X.1 X.2.1 dX9_place_120 rfl (lv_at hl 0 rfl) ?_
          refine r_gf X inX9_place_X9 hw 0 rfl rfl 39 (by decide) (X.2.2.2.2 (.fieldLink RX9 122 "TestHallModel" "slot" "[I") (by decide +kernel)) rfl rfl dX9_place_121 ?_
          refine lv_iload X.1 X.2.1 dX9_place_124 (lv_at hl 3 rfl) ?_
          obtain ⟨hi_, h⟩ := h
          refine r_ial X hw 28 0 rfl rfl hi_ dX9_place_126 ?_
          refine r_Vi (As := [.int (gA M 39 x6.toNatClampNeg)]) (rest := []) X cN_ok (kX9_isThere h) (cwV 1 X.2.2.2.2 gX9_place_X9_isThere rfl rfl rfl (by decide +kernel) ⟨Nat.le_of_ble_eq_true rfl, Nat.le_of_ble_eq_true rfl⟩) hw 0 8 rfl rfl rfl hl.1 rfl (Nat.le_of_ble_eq_true rfl) dX9_place_127 (fun r_2 M_1 H locs h hw => ?_)
          obtain ⟨ht_, hf_⟩ := h
          refine lv_if_eq (tgt := 163) X.1 X.2.1 dX9_place_130 (by decide) (fun c_ => ?_) (fun c_ => ?_)
          · have h := ht_ c_
            exact bX9_place_163 X hr hlk hK85 M_1 x1 x5 x6 _ _ _ h hw (lv_sub hl [0, 1, 2, 3] rfl)
          · have h := hf_ c_
            refine lv_aload_n X.1 X.2.1 dX9_place_133 rfl (lv_at hl 0 rfl) ?_
            refine r_gf X inX9_place_X9 hw 0 rfl rfl 26 (by decide) (X.2.2.2.2 (.fieldLink RX9 85 "TestHallModel" "town" "[I") (by decide +kernel)) rfl rfl dX9_place_134 ?_
            refine lv_bipush (v := (60 : Int32)) X.1 X.2.1 dX9_place_137 (by decide) ?_
            refine lv_iload_n X.1 X.2.1 dX9_place_139 rfl (lv_at hl 1 rfl) ?_
            refine lv_imul X.1 X.2.1 dX9_place_140 ?_
            refine lv_aload_n X.1 X.2.1 dX9_place_141 rfl (lv_at hl 0 rfl) ?_
            refine r_gf X inX9_place_X9 hw 0 rfl rfl 39 (by decide) (X.2.2.2.2 (.fieldLink RX9 122 "TestHallModel" "slot" "[I") (by decide +kernel)) rfl rfl dX9_place_142 ?_
            refine lv_iload X.1 X.2.1 dX9_place_145 (lv_at hl 3 rfl) ?_
            obtain ⟨hi_, h⟩ := h
            refine r_ial X hw 28 0 rfl rfl hi_ dX9_place_147 ?_
            refine lv_bipush (v := (48 : Int32)) X.1 X.2.1 dX9_place_148 (by decide) ?_
            refine lv_idiv X.1 X.2.1 dX9_place_150 (by decide) ?_
            refine lv_iadd X.1 X.2.1 dX9_place_151 ?_
            obtain ⟨hi_, h⟩ := h
            refine r_ial X hw 16 0 rfl rfl hi_ dX9_place_152 ?_
            refine lv_aload_n X.1 X.2.1 dX9_place_153 rfl (lv_at hl 0 rfl) ?_
            refine r_gf X inX9_place_X9 hw 0 rfl rfl 31 (by decide) (X.2.2.2.2 (.fieldLink RX9 98 "TestHallModel" "home" "[I") (by decide +kernel)) rfl rfl dX9_place_154 ?_
            refine lv_iload X.1 X.2.1 dX9_place_157 (lv_at hl 3 rfl) ?_
            obtain ⟨hi_, h⟩ := h
            refine r_ial X hw 20 0 rfl rfl hi_ dX9_place_159 ?_
            obtain ⟨ht_, hf_⟩ := h
            refine lv_icmp_eq (tgt := 172) X.1 X.2.1 dX9_place_160 (by decide) (fun c_ => ?_) (fun c_ => ?_)
            · have h := ht_ c_
              exact bX9_place_172 X hr hlk hK85 M_1 x1 x5 x6 _ _ _ h hw (lv_sub hl [0, 1, 2, 3] rfl)
            · have h := hf_ c_
              exact bX9_place_163 X hr hlk hK85 M_1 x1 x5 x6 _ _ _ h hw (lv_sub hl [0, 1, 2, 3] rfl)
def vX9_place_53 (Q : Sg → Int32 → Prop) : Nat → Sg → Int32 → Int32 → Int32 → Int32 → Prop
  | 0, _, _, _, _, _ => False
  | f53_ + 1, M, x1, x2, x4, x5 => ((x4 < x5 → (∃ g85_ : Nat, vX9_place_85 Q g85_ M x1 (0 : Int32) (0 : Int32))) ∧ (¬ x4 < x5 → (vp_in (((60 : Int32) * x1) + x5) 480 ∧ (∀ (M_1 : Sg), M_1 = sA M 26 (((60 : Int32) * x1) + x5).toNatClampNeg x2 → (∀ (x_2 : Int32), x_2 = x5 + (1 : Int32) → (vX9_place_53 Q f53_ M_1 x1 x2 x4 x_2))))))
set_option maxHeartbeats 4000000 in
set_option maxRecDepth 100000 in
theorem bX9_place_53 {p : Program} {l : Launch} {e : Env} {s : State} {m : MethodId} {args : Array Value} {below : List Frame} {meth : Method} {c : Code} {D : va_G} {κ : Nat → ClassId} {η : Nat → Nat} {σ : (Nat → Nat) × (Nat → Nat)} {A : Nat → Prop} {Q : Sg → Int32 → Prop} (X : CallFix p m c cX9_place 7 s args wsX9_place RX9) (hr : meth.sig.returnType = (some .int)) (hlk : meth.locks = false) : ∀ (f_ : Nat) (M : Sg) (x1 : Int32) (x2 : Int32) (x4 : Int32) (x5 : Int32) (H : Heap) (locs : List Loc) (ls : Array Slot), vX9_place_53 Q f_ M x1 x2 x4 x5 → Wd (cN σ) D (Ky κ) A s (mw κ η M) H locs → lv_has ls 7 [(0, .ref (η 0)), (1, .int x1), (2, .int x2), (4, .int x4), (5, .int x5)] → W p l e rmX9_place s m args below meth c H locs 0 0 (MQ below (Qi D (Ky κ) (mw κ η) A Q) args s 0 0 A) (F0 m 53 ls []) := by
  intro f_
  induction f_ with
  | zero => intro M x1 x2 x4 x5 H locs ls h; exact h.elim
  | succ f_ hK53 =>
    intro M x1 x2 x4 x5 H locs ls h hw hl
    refine lv_iload X.1 X.2.1 dX9_place_53 (lv_at hl 4 rfl) ?_
    refine lv_iload X.1 X.2.1 dX9_place_55 (lv_at hl 3 rfl) ?_
    obtain ⟨ht_, hf_⟩ := h
    refine lv_icmp_gt (tgt := 79) X.1 X.2.1 dX9_place_57 (by decide) (fun c_ => ?_) (fun c_ => ?_)
    · have h := ht_ c_
      refine lv_iconst (v := (0 : Int32)) X.1 X.2.1 dX9_place_79 (by decide) ?_
      refine lv_istore (lv' := [(5, .int (0 : Int32)), (0, .ref (η 0)), (1, .int x1), (2, .int x2), (4, .int x4)]) X.1 X.2.1 dX9_place_80 hl (by decide) rfl (fun ls hl => ?_)
      refine lv_iconst (v := (0 : Int32)) X.1 X.2.1 dX9_place_82 (by decide) ?_
      refine lv_istore (lv' := [(6, .int (0 : Int32)), (5, .int (0 : Int32)), (0, .ref (η 0)), (1, .int x1), (2, .int x2), (4, .int x4)]) X.1 X.2.1 dX9_place_83 hl (by decide) rfl (fun ls hl => ?_)
      obtain ⟨f_, h⟩ := h
      exact bX9_place_85 X hr hlk f_ M x1 (0 : Int32) (0 : Int32) _ _ _ h hw (lv_sub hl [2, 3, 1, 0] rfl)
    · have h := hf_ c_
      refine lv_aload_n X.1 X.2.1 dX9_place_60 rfl (lv_at hl 0 rfl) ?_
      refine r_gf X inX9_place_X9 hw 0 rfl rfl 26 (by decide) (X.2.2.2.2 (.fieldLink RX9 85 "TestHallModel" "town" "[I") (by decide +kernel)) rfl rfl dX9_place_61 ?_
      refine lv_bipush (v := (60 : Int32)) X.1 X.2.1 dX9_place_64 (by decide) ?_
      refine lv_iload_n X.1 X.2.1 dX9_place_66 rfl (lv_at hl 1 rfl) ?_
      refine lv_imul X.1 X.2.1 dX9_place_67 ?_
      refine lv_iload X.1 X.2.1 dX9_place_68 (lv_at hl 4 rfl) ?_
      refine lv_iadd X.1 X.2.1 dX9_place_70 ?_
      refine lv_iload_n X.1 X.2.1 dX9_place_71 rfl (lv_at hl 2 rfl) ?_
      obtain ⟨hi_, h⟩ := h
      refine r_ias (w' := mw κ η (sA M 26 (((60 : Int32) * x1) + x5).toNatClampNeg x2)) X hw 16 0 rfl rfl hi_ rfl dX9_place_72 (fun H locs hw => ?_)
      obtain ⟨M_1, eM_1⟩ : ∃ y : Sg, y = sA M 26 (((60 : Int32) * x1) + x5).toNatClampNeg x2 := ⟨_, rfl⟩
      rw [← eM_1] at hw
      have h := h M_1 eM_1
      obtain ⟨x_2, ex_2⟩ : ∃ y : Int32, y = x5 + (1 : Int32) := ⟨_, rfl⟩
      have h := h x_2 ex_2
      refine lv_iinc (v := x_2) (lv' := [(5, .int x_2), (0, .ref (η 0)), (1, .int x1), (2, .int x2), (4, .int x4)]) X.1 X.2.1 dX9_place_73 hl (k := 4) rfl (by rw [ex_2]; rfl) (by decide) rfl (fun ls hl => ?_)
      refine lv_goto (tgt := 53) X.1 X.2.1 dX9_place_76 (by decide) ?_
      exact hK53 M_1 x1 x2 x4 x_2 _ _ _ h hw (lv_sub hl [1, 2, 3, 4, 0] rfl)
def wX9_place (M : Sg) (a1 : Int32) (a2 : Int32) (a3 : Int32) (a4 : Int32) (Q : Sg → Int32 → Prop) : Prop := (∀ (M_1 : Sg), M_1 = sI M 0 (0 : Int32) → ((a1 < 0 → (Q M_1 (-1 : Int32))) ∧ (¬ a1 < 0 → (((gI M_1 25) ≤ a1 → (Q M_1 (-1 : Int32))) ∧ (¬ (gI M_1 25) ≤ a1 → ((a2 < (-1 : Int32) → (Q M_1 (-1 : Int32))) ∧ (¬ a2 < (-1 : Int32) → (((5 : Int32) < a2 → (Q M_1 (-1 : Int32))) ∧ (¬ (5 : Int32) < a2 → ((a3 ≤ (gI M_1 24) → (Q M_1 (-1 : Int32))) ∧ (¬ a3 ≤ (gI M_1 24) → ((a4 < a3 → (Q M_1 (-1 : Int32))) ∧ (¬ a4 < a3 → ((a4 ≤ (59 : Int32) → (∃ g53_ : Nat, vX9_place_53 Q g53_ M_1 a1 a2 a4 a3)) ∧ (¬ a4 ≤ (59 : Int32) → (Q M_1 (-1 : Int32)))))))))))))))))
set_option maxHeartbeats 4000000 in
set_option maxRecDepth 100000 in
theorem kX9_place {l : Launch} {D : va_G} {κ : Nat → ClassId} {η : Nat → Nat} {σ : (Nat → Nat) × (Nat → Nat)} {M : Sg} {a1 : Int32} {a2 : Int32} {a3 : Int32} {a4 : Int32} {Q : Sg → Int32 → Prop} (h : wX9_place M a1 a2 a3 a4 Q) : Ki (cN σ) D (Ky κ) (mw κ η) l yX9_place wsX9_place rmX9_place [.ref (η 0), .int a1, .int a2, .int a3, .int a4] M Q := by
  refine ofW_g (Qc := fun A => Qi D (Ky κ) (mw κ η) A Q) (cc := cX9_place) (maxL := 7) (ret := (some .int)) (by decide) rfl (Nat.le_of_ble_eq_true rfl) ?_
  intro p e s m args below meth c A ls X hr hlk hw hl
  have hl : lv_has ls 7 [(0, .ref (η 0)), (1, .int a1), (2, .int a2), (3, .int a3), (4, .int a4)] := hl
  refine lv_aload_n X.1 X.2.1 dX9_place_0 rfl (lv_at hl 0 rfl) ?_
  refine lv_iconst (v := (0 : Int32)) X.1 X.2.1 dX9_place_1 (by decide) ?_
  refine r_pf (ty := .int) (w' := mw κ η (sI M 0 (0 : Int32))) X inX9_place_X9 tyX9_ok nmX9 hw 0 rfl rfl 0 (by decide) (X.2.2.2.2 (.fieldLink RX9 1 "TestHallModel" "thrown" "I") (by decide +kernel)) rfl rfl (by decide +kernel) rfl rfl (Nat.le_of_ble_eq_true rfl) rfl dX9_place_2 (fun H locs hw => ?_)
  obtain ⟨M_1, eM_1⟩ : ∃ y : Sg, y = sI M 0 (0 : Int32) := ⟨_, rfl⟩
  rw [← eM_1] at hw
  have h := h M_1 eM_1
  refine lv_iload_n X.1 X.2.1 dX9_place_5 rfl (lv_at hl 1 rfl) ?_
  obtain ⟨ht_, hf_⟩ := h
  refine lv_if_lt (tgt := 48) X.1 X.2.1 dX9_place_6 (by decide) (fun c_ => ?_) (fun c_ => ?_)
  · have h := ht_ c_
    refine lv_iconst (v := (-1 : Int32)) X.1 X.2.1 dX9_place_48 (by decide) ?_
    exact r_ret X hr hlk hw h dX9_place_49
  · have h := hf_ c_
    refine lv_iload_n X.1 X.2.1 dX9_place_9 rfl (lv_at hl 1 rfl) ?_
    refine lv_aload_n X.1 X.2.1 dX9_place_10 rfl (lv_at hl 0 rfl) ?_
    refine r_gf X inX9_place_X9 hw 0 rfl rfl 25 (by decide) (X.2.2.2.2 (.fieldLink RX9 249 "TestHallModel" "examiners" "I") (by decide +kernel)) rfl rfl dX9_place_11 ?_
    obtain ⟨ht_, hf_⟩ := h
    refine lv_icmp_ge (tgt := 48) X.1 X.2.1 dX9_place_14 (by decide) (fun c_ => ?_) (fun c_ => ?_)
    · have h := ht_ c_
      refine lv_iconst (v := (-1 : Int32)) X.1 X.2.1 dX9_place_48 (by decide) ?_
      exact r_ret X hr hlk hw h dX9_place_49
    · have h := hf_ c_
      refine lv_iload_n X.1 X.2.1 dX9_place_17 rfl (lv_at hl 2 rfl) ?_
      refine lv_iconst (v := (-1 : Int32)) X.1 X.2.1 dX9_place_18 (by decide) ?_
      obtain ⟨ht_, hf_⟩ := h
      refine lv_icmp_lt (tgt := 48) X.1 X.2.1 dX9_place_19 (by decide) (fun c_ => ?_) (fun c_ => ?_)
      · have h := ht_ c_
        refine lv_iconst (v := (-1 : Int32)) X.1 X.2.1 dX9_place_48 (by decide) ?_
        exact r_ret X hr hlk hw h dX9_place_49
      · have h := hf_ c_
        refine lv_iload_n X.1 X.2.1 dX9_place_22 rfl (lv_at hl 2 rfl) ?_
        refine lv_iconst (v := (5 : Int32)) X.1 X.2.1 dX9_place_23 (by decide) ?_
        obtain ⟨ht_, hf_⟩ := h
        refine lv_icmp_gt (tgt := 48) X.1 X.2.1 dX9_place_24 (by decide) (fun c_ => ?_) (fun c_ => ?_)
        · have h := ht_ c_
          refine lv_iconst (v := (-1 : Int32)) X.1 X.2.1 dX9_place_48 (by decide) ?_
          exact r_ret X hr hlk hw h dX9_place_49
        · have h := hf_ c_
          refine lv_iload_n X.1 X.2.1 dX9_place_27 rfl (lv_at hl 3 rfl) ?_
          refine lv_aload_n X.1 X.2.1 dX9_place_28 rfl (lv_at hl 0 rfl) ?_
          refine r_gf X inX9_place_X9 hw 0 rfl rfl 24 (by decide) (X.2.2.2.2 (.fieldLink RX9 259 "TestHallModel" "now" "I") (by decide +kernel)) rfl rfl dX9_place_29 ?_
          obtain ⟨ht_, hf_⟩ := h
          refine lv_icmp_le (tgt := 48) X.1 X.2.1 dX9_place_32 (by decide) (fun c_ => ?_) (fun c_ => ?_)
          · have h := ht_ c_
            refine lv_iconst (v := (-1 : Int32)) X.1 X.2.1 dX9_place_48 (by decide) ?_
            exact r_ret X hr hlk hw h dX9_place_49
          · have h := hf_ c_
            refine lv_iload X.1 X.2.1 dX9_place_35 (lv_at hl 4 rfl) ?_
            refine lv_iload_n X.1 X.2.1 dX9_place_37 rfl (lv_at hl 3 rfl) ?_
            obtain ⟨ht_, hf_⟩ := h
            refine lv_icmp_lt (tgt := 48) X.1 X.2.1 dX9_place_38 (by decide) (fun c_ => ?_) (fun c_ => ?_)
            · have h := ht_ c_
              refine lv_iconst (v := (-1 : Int32)) X.1 X.2.1 dX9_place_48 (by decide) ?_
              exact r_ret X hr hlk hw h dX9_place_49
            · have h := hf_ c_
              refine lv_iload X.1 X.2.1 dX9_place_41 (lv_at hl 4 rfl) ?_
              refine lv_bipush (v := (59 : Int32)) X.1 X.2.1 dX9_place_43 (by decide) ?_
              obtain ⟨ht_, hf_⟩ := h
              refine lv_icmp_le (tgt := 50) X.1 X.2.1 dX9_place_45 (by decide) (fun c_ => ?_) (fun c_ => ?_)
              · have h := ht_ c_
                refine lv_iload_n X.1 X.2.1 dX9_place_50 rfl (lv_at hl 3 rfl) ?_
                refine lv_istore (lv' := [(5, .int a3), (0, .ref (η 0)), (1, .int a1), (2, .int a2), (3, .int a3), (4, .int a4)]) X.1 X.2.1 dX9_place_51 hl (by decide) rfl (fun ls hl => ?_)
                obtain ⟨f_, h⟩ := h
                exact bX9_place_53 X hr hlk f_ M_1 a1 a2 a4 a3 _ _ _ h hw (lv_sub hl [1, 2, 3, 5, 0] rfl)
              · have h := hf_ c_
                refine lv_iconst (v := (-1 : Int32)) X.1 X.2.1 dX9_place_48 (by decide) ?_
                exact r_ret X hr hlk hw h dX9_place_49

theorem inX9_shut_X9 : ∀ w ∈ wsX90, w ∈ wsX9_shut := fun w h => List.mem_cons_of_mem _ (List.mem_append_right _ h)
abbrev rmX9_shut : Room := { frames := 4, cells := 0, slots := 0, locals := 92 }
def vX9_shut_100 (K41 : Sg → Int32 → Int32 → Int32 → Prop) (Q : Sg → Int32 → Prop) (M : Sg) (x1 : Int32) (x2 : Int32) (x3 : Int32) : Prop := (∀ (x_1 : Int32), x_1 = x3 + (1 : Int32) → (K41 M x1 x2 x_1))
set_option maxHeartbeats 4000000 in
set_option maxRecDepth 100000 in
theorem bX9_shut_100 {p : Program} {l : Launch} {e : Env} {s : State} {m : MethodId} {args : Array Value} {below : List Frame} {meth : Method} {c : Code} {D : va_G} {κ : Nat → ClassId} {η : Nat → Nat} {σ : (Nat → Nat) × (Nat → Nat)} {A : Nat → Prop} {Q : Sg → Int32 → Prop} {K41 : Sg → Int32 → Int32 → Int32 → Prop} (X : CallFix p m c cX9_shut 4 s args wsX9_shut RX9) (hr : meth.sig.returnType = (some .int)) (hlk : meth.locks = false) (hK41 : ∀ (M : Sg) (x1 : Int32) (x2 : Int32) (x3 : Int32) (H : Heap) (locs : List Loc) (ls : Array Slot), K41 M x1 x2 x3 → Wd (cN σ) D (Ky κ) A s (mw κ η M) H locs → lv_has ls 4 [(0, .ref (η 0)), (1, .int x1), (2, .int x2), (3, .int x3)] → W p l e rmX9_shut s m args below meth c H locs 0 0 (MQ below (Qi D (Ky κ) (mw κ η) A Q) args s 0 0 A) (F0 m 41 ls [])) : ∀ (M : Sg) (x1 : Int32) (x2 : Int32) (x3 : Int32) (H : Heap) (locs : List Loc) (ls : Array Slot), vX9_shut_100 K41 Q M x1 x2 x3 → Wd (cN σ) D (Ky κ) A s (mw κ η M) H locs → lv_has ls 4 [(0, .ref (η 0)), (1, .int x1), (2, .int x2), (3, .int x3)] → W p l e rmX9_shut s m args below meth c H locs 0 0 (MQ below (Qi D (Ky κ) (mw κ η) A Q) args s 0 0 A) (F0 m 100 ls []) := by
  intro M x1 x2 x3 H locs ls h hw hl
  obtain ⟨x_1, ex_1⟩ : ∃ y : Int32, y = x3 + (1 : Int32) := ⟨_, rfl⟩
  have h := h x_1 ex_1
  refine lv_iinc (v := x_1) (lv' := [(3, .int x_1), (0, .ref (η 0)), (1, .int x1), (2, .int x2)]) X.1 X.2.1 dX9_shut_100 hl (k := 3) rfl (by rw [ex_1]; rfl) (by decide) rfl (fun ls hl => ?_)
  refine lv_goto (tgt := 41) X.1 X.2.1 dX9_shut_103 (by decide) ?_
  exact hK41 M x1 x2 x_1 _ _ _ h hw (lv_sub hl [1, 2, 3, 0] rfl)
def vX9_shut_82 (K41 : Sg → Int32 → Int32 → Int32 → Prop) (Q : Sg → Int32 → Prop) (M : Sg) (x1 : Int32) (x2 : Int32) (x3 : Int32) (s0 : Int32) (s1 : Int32) : Prop := (vp_in s1 60 ∧ (∀ (M_1 : Sg), M_1 = sA M 44 s1.toNatClampNeg (vp_nar .boolean s0) → (vp_in x3 60 ∧ (((gA M_1 44 x3.toNatClampNeg) = 0 → (vX9_shut_100 K41 Q M_1 x1 x2 x3)) ∧ (¬ (gA M_1 44 x3.toNatClampNeg) = 0 → (wX9_waits M_1 x3 (fun M_2 => (∀ (x_4 : Int32), x_4 = x2 + (1 : Int32) → (vX9_shut_100 K41 Q M_2 x1 x_4 x3)))))))))
set_option maxHeartbeats 4000000 in
set_option maxRecDepth 100000 in
theorem bX9_shut_82 {p : Program} {l : Launch} {e : Env} {s : State} {m : MethodId} {args : Array Value} {below : List Frame} {meth : Method} {c : Code} {D : va_G} {κ : Nat → ClassId} {η : Nat → Nat} {σ : (Nat → Nat) × (Nat → Nat)} {A : Nat → Prop} {Q : Sg → Int32 → Prop} {K41 : Sg → Int32 → Int32 → Int32 → Prop} (X : CallFix p m c cX9_shut 4 s args wsX9_shut RX9) (hr : meth.sig.returnType = (some .int)) (hlk : meth.locks = false) (hK41 : ∀ (M : Sg) (x1 : Int32) (x2 : Int32) (x3 : Int32) (H : Heap) (locs : List Loc) (ls : Array Slot), K41 M x1 x2 x3 → Wd (cN σ) D (Ky κ) A s (mw κ η M) H locs → lv_has ls 4 [(0, .ref (η 0)), (1, .int x1), (2, .int x2), (3, .int x3)] → W p l e rmX9_shut s m args below meth c H locs 0 0 (MQ below (Qi D (Ky κ) (mw κ η) A Q) args s 0 0 A) (F0 m 41 ls [])) : ∀ (M : Sg) (x1 : Int32) (x2 : Int32) (x3 : Int32) (s0 : Int32) (s1 : Int32) (H : Heap) (locs : List Loc) (ls : Array Slot), vX9_shut_82 K41 Q M x1 x2 x3 s0 s1 → Wd (cN σ) D (Ky κ) A s (mw κ η M) H locs → lv_has ls 4 [(0, .ref (η 0)), (1, .int x1), (2, .int x2), (3, .int x3)] → W p l e rmX9_shut s m args below meth c H locs 0 0 (MQ below (Qi D (Ky κ) (mw κ η) A Q) args s 0 0 A) (F0 m 82 ls [.int s0, .int s1, .ref (η 32)]) := by
  intro M x1 x2 x3 s0 s1 H locs ls h hw hl
  obtain ⟨hi_, h⟩ := h
  refine r_zas (w' := mw κ η (sA M 44 s1.toNatClampNeg (vp_nar .boolean s0))) X hw 32 1 rfl rfl hi_ rfl dX9_shut_82 (fun H locs hw => ?_)
  obtain ⟨M_1, eM_1⟩ : ∃ y : Sg, y = sA M 44 s1.toNatClampNeg (vp_nar .boolean s0) := ⟨_, rfl⟩
  rw [← eM_1] at hw
  have h := h M_1 eM_1
  refine lv_aload_n X.1 X.2.1 dX9_shut_83 rfl (lv_at hl 0 rfl) ?_
  refine r_gf X inX9_shut_X9 hw 0 rfl rfl 44 (by decide) (X.2.2.2.2 (.fieldLink RX9 134 "TestHallModel" "isDealt" "[Z") (by decide +kernel)) rfl rfl dX9_shut_84 ?_
  refine lv_iload_n X.1 X.2.1 dX9_shut_87 rfl (lv_at hl 3 rfl) ?_
  obtain ⟨hi_, h⟩ := h
  refine r_zal X hw 32 1 rfl rfl hi_ dX9_shut_88 ?_
  obtain ⟨ht_, hf_⟩ := h
  refine lv_if_eq (tgt := 100) X.1 X.2.1 dX9_shut_89 (by decide) (fun c_ => ?_) (fun c_ => ?_)
  · have h := ht_ c_
    exact bX9_shut_100 X hr hlk hK41 M_1 x1 x2 x3 _ _ _ h hw (lv_sub hl [0, 1, 2, 3] rfl)
  · have h := hf_ c_
    refine lv_aload_n X.1 X.2.1 dX9_shut_92 rfl (lv_at hl 0 rfl) ?_
    refine lv_iload_n X.1 X.2.1 dX9_shut_93 rfl (lv_at hl 3 rfl) ?_
    refine r_Vv (As := [.int x3]) (rest := []) X cN_ok (kX9_waits h) (cwV 1 X.2.2.2.2 gX9_shut_X9_waits rfl rfl rfl (by decide +kernel) ⟨Nat.le_of_ble_eq_true rfl, Nat.le_of_ble_eq_true rfl⟩) hw 0 8 rfl rfl rfl hl.1 rfl (Nat.le_of_ble_eq_true rfl) dX9_shut_94 (fun M_2 H locs h hw => ?_)
    obtain ⟨x_4, ex_4⟩ : ∃ y : Int32, y = x2 + (1 : Int32) := ⟨_, rfl⟩
    have h := h x_4 ex_4
    refine lv_iinc (v := x_4) (lv' := [(2, .int x_4), (0, .ref (η 0)), (1, .int x1), (3, .int x3)]) X.1 X.2.1 dX9_shut_97 hl (k := 2) rfl (by rw [ex_4]; rfl) (by decide) rfl (fun ls hl => ?_)
    exact bX9_shut_100 X hr hlk hK41 M_2 x1 x_4 x3 _ _ _ h hw (lv_sub hl [1, 2, 0, 3] rfl)
def vX9_shut_81 (K41 : Sg → Int32 → Int32 → Int32 → Prop) (Q : Sg → Int32 → Prop) (M : Sg) (x1 : Int32) (x2 : Int32) (x3 : Int32) (s0 : Int32) : Prop := (vX9_shut_82 K41 Q M x1 x2 x3 (0 : Int32) s0)
set_option maxHeartbeats 4000000 in
set_option maxRecDepth 100000 in
theorem bX9_shut_81 {p : Program} {l : Launch} {e : Env} {s : State} {m : MethodId} {args : Array Value} {below : List Frame} {meth : Method} {c : Code} {D : va_G} {κ : Nat → ClassId} {η : Nat → Nat} {σ : (Nat → Nat) × (Nat → Nat)} {A : Nat → Prop} {Q : Sg → Int32 → Prop} {K41 : Sg → Int32 → Int32 → Int32 → Prop} (X : CallFix p m c cX9_shut 4 s args wsX9_shut RX9) (hr : meth.sig.returnType = (some .int)) (hlk : meth.locks = false) (hK41 : ∀ (M : Sg) (x1 : Int32) (x2 : Int32) (x3 : Int32) (H : Heap) (locs : List Loc) (ls : Array Slot), K41 M x1 x2 x3 → Wd (cN σ) D (Ky κ) A s (mw κ η M) H locs → lv_has ls 4 [(0, .ref (η 0)), (1, .int x1), (2, .int x2), (3, .int x3)] → W p l e rmX9_shut s m args below meth c H locs 0 0 (MQ below (Qi D (Ky κ) (mw κ η) A Q) args s 0 0 A) (F0 m 41 ls [])) : ∀ (M : Sg) (x1 : Int32) (x2 : Int32) (x3 : Int32) (s0 : Int32) (H : Heap) (locs : List Loc) (ls : Array Slot), vX9_shut_81 K41 Q M x1 x2 x3 s0 → Wd (cN σ) D (Ky κ) A s (mw κ η M) H locs → lv_has ls 4 [(0, .ref (η 0)), (1, .int x1), (2, .int x2), (3, .int x3)] → W p l e rmX9_shut s m args below meth c H locs 0 0 (MQ below (Qi D (Ky κ) (mw κ η) A Q) args s 0 0 A) (F0 m 81 ls [.int s0, .ref (η 32)]) := by
  intro M x1 x2 x3 s0 H locs ls h hw hl
  refine lv_iconst (v := (0 : Int32)) X.1 X.2.1 dX9_shut_81 (by decide) ?_
  exact bX9_shut_82 X hr hlk hK41 M x1 x2 x3 (0 : Int32) s0 _ _ _ h hw (lv_sub hl [0, 1, 2, 3] rfl)
def vX9_shut_41 (Q : Sg → Int32 → Prop) : Nat → Sg → Int32 → Int32 → Int32 → Prop
  | 0, _, _, _, _ => False
  | f41_ + 1, M, x1, x2, x3 => (((gI M 30) ≤ x3 → (wX9_deals M (fun M_1 r_2 => (Q M_1 (x2 - r_2))))) ∧ (¬ (gI M 30) ≤ x3 → (vp_in x3 60 ∧ ((¬ (gA M 38 x3.toNatClampNeg) = (1 : Int32) → (vX9_shut_81 (vX9_shut_41 Q f41_) Q M x1 x2 x3 x3)) ∧ ((gA M 38 x3.toNatClampNeg) = (1 : Int32) → (vp_in x3 60 ∧ ((¬ ((gA M 39 x3.toNatClampNeg) / (48 : Int32)) = x1 → (vX9_shut_81 (vX9_shut_41 Q f41_) Q M x1 x2 x3 x3)) ∧ (((gA M 39 x3.toNatClampNeg) / (48 : Int32)) = x1 → (vX9_shut_82 (vX9_shut_41 Q f41_) Q M x1 x2 x3 (1 : Int32) x3)))))))))
set_option maxHeartbeats 4000000 in
set_option maxRecDepth 100000 in
theorem bX9_shut_41 {p : Program} {l : Launch} {e : Env} {s : State} {m : MethodId} {args : Array Value} {below : List Frame} {meth : Method} {c : Code} {D : va_G} {κ : Nat → ClassId} {η : Nat → Nat} {σ : (Nat → Nat) × (Nat → Nat)} {A : Nat → Prop} {Q : Sg → Int32 → Prop} (X : CallFix p m c cX9_shut 4 s args wsX9_shut RX9) (hr : meth.sig.returnType = (some .int)) (hlk : meth.locks = false) : ∀ (f_ : Nat) (M : Sg) (x1 : Int32) (x2 : Int32) (x3 : Int32) (H : Heap) (locs : List Loc) (ls : Array Slot), vX9_shut_41 Q f_ M x1 x2 x3 → Wd (cN σ) D (Ky κ) A s (mw κ η M) H locs → lv_has ls 4 [(0, .ref (η 0)), (1, .int x1), (2, .int x2), (3, .int x3)] → W p l e rmX9_shut s m args below meth c H locs 0 0 (MQ below (Qi D (Ky κ) (mw κ η) A Q) args s 0 0 A) (F0 m 41 ls []) := by
  intro f_
  induction f_ with
  | zero => intro M x1 x2 x3 H locs ls h; exact h.elim
  | succ f_ hK41 =>
    intro M x1 x2 x3 H locs ls h hw hl
    refine lv_iload_n X.1 X.2.1 dX9_shut_41 rfl (lv_at hl 3 rfl) ?_
    refine lv_aload_n X.1 X.2.1 dX9_shut_42 rfl (lv_at hl 0 rfl) ?_
    refine r_gf X inX9_shut_X9 hw 0 rfl rfl 30 (by decide) (X.2.2.2.2 (.fieldLink RX9 256 "TestHallModel" "learners" "I") (by decide +kernel)) rfl rfl dX9_shut_43 ?_
    obtain ⟨ht_, hf_⟩ := h
    refine lv_icmp_ge (tgt := 106) X.1 X.2.1 dX9_shut_46 (by decide) (fun c_ => ?_) (fun c_ => ?_)
    · have h := ht_ c_
      refine lv_iload_n X.1 X.2.1 dX9_shut_106 rfl (lv_at hl 2 rfl) ?_
      refine lv_aload_n X.1 X.2.1 dX9_shut_107 rfl (lv_at hl 0 rfl) ?_
      refine r_Vi (As := []) (rest := [.int x2]) X cN_ok (kX9_deals h) (cwV 0 X.2.2.2.2 gX9_shut_X9_deals rfl rfl rfl (by decide +kernel) ⟨Nat.le_of_ble_eq_true rfl, Nat.le_of_ble_eq_true rfl⟩) hw 0 8 rfl rfl rfl hl.1 rfl (Nat.le_of_ble_eq_true rfl) dX9_shut_108 (fun r_2 M_1 H locs h hw => ?_)
      refine lv_isub X.1 X.2.1 dX9_shut_111 ?_
      exact r_ret X hr hlk hw h dX9_shut_112
    · have h := hf_ c_
      refine lv_aload_n X.1 X.2.1 dX9_shut_49 rfl (lv_at hl 0 rfl) ?_
      refine r_gf X inX9_shut_X9 hw 0 rfl rfl 44 (by decide) (X.2.2.2.2 (.fieldLink RX9 134 "TestHallModel" "isDealt" "[Z") (by decide +kernel)) rfl rfl dX9_shut_50 ?_
      refine lv_iload_n X.1 X.2.1 dX9_shut_53 rfl (lv_at hl 3 rfl) ?_
      refine lv_aload_n X.1 X.2.1 dX9_shut_54 rfl (lv_at hl 0 rfl) ?_
      refine r_gf X inX9_shut_X9 hw 0 rfl rfl 38 (by decide) (X.2.2.2.2 (.fieldLink RX9 119 "TestHallModel" "state" "[I") (by decide +kernel)) rfl rfl dX9_shut_55 ?_
      refine lv_iload_n X.1 X.2.1 dX9_shut_58 rfl (lv_at hl 3 rfl) ?_
      obtain ⟨hi_, h⟩ := h
      refine r_ial X hw 27 0 rfl rfl hi_ dX9_shut_59 ?_
      refine lv_iconst (v := (1 : Int32)) X.1 X.2.1 dX9_shut_60 (by decide) ?_
      obtain ⟨ht_, hf_⟩ := h
      refine lv_icmp_ne (tgt := 81) X.1 X.2.1 dX9_shut_61 (by decide) (fun c_ => ?_) (fun c_ => ?_)
      · have h := ht_ c_
        exact bX9_shut_81 X hr hlk hK41 M x1 x2 x3 x3 _ _ _ h hw (lv_sub hl [0, 1, 2, 3] rfl)
      · have h := hf_ c_
        refine lv_aload_n X.1 X.2.1 dX9_shut_64 rfl (lv_at hl 0 rfl) ?_
        refine r_gf X inX9_shut_X9 hw 0 rfl rfl 39 (by decide) (X.2.2.2.2 (.fieldLink RX9 122 "TestHallModel" "slot" "[I") (by decide +kernel)) rfl rfl dX9_shut_65 ?_
        refine lv_iload_n X.1 X.2.1 dX9_shut_68 rfl (lv_at hl 3 rfl) ?_
        obtain ⟨hi_, h⟩ := h
        refine r_ial X hw 28 0 rfl rfl hi_ dX9_shut_69 ?_
        refine lv_bipush (v := (48 : Int32)) X.1 X.2.1 dX9_shut_70 (by decide) ?_
        refine lv_idiv X.1 X.2.1 dX9_shut_72 (by decide) ?_
        refine lv_iload_n X.1 X.2.1 dX9_shut_73 rfl (lv_at hl 1 rfl) ?_
        obtain ⟨ht_, hf_⟩ := h
        refine lv_icmp_ne (tgt := 81) X.1 X.2.1 dX9_shut_74 (by decide) (fun c_ => ?_) (fun c_ => ?_)
        · have h := ht_ c_
          exact bX9_shut_81 X hr hlk hK41 M x1 x2 x3 x3 _ _ _ h hw (lv_sub hl [0, 1, 2, 3] rfl)
        · have h := hf_ c_
          refine lv_iconst (v := (1 : Int32)) X.1 X.2.1 dX9_shut_77 (by decide) ?_
          refine lv_goto (tgt := 82) X.1 X.2.1 dX9_shut_78 (by decide) ?_
          exact bX9_shut_82 X hr hlk hK41 M x1 x2 x3 (1 : Int32) x3 _ _ _ h hw (lv_sub hl [0, 1, 2, 3] rfl)
def wX9_shut (M : Sg) (a1 : Int32) (Q : Sg → Int32 → Prop) : Prop := (∀ (M_1 : Sg), M_1 = sI M 0 (0 : Int32) → ((a1 ≤ (gI M_1 24) → (Q M_1 (-1 : Int32))) ∧ (¬ a1 ≤ (gI M_1 24) → (((59 : Int32) < a1 → (Q M_1 (-1 : Int32))) ∧ (¬ (59 : Int32) < a1 → (vp_in a1 60 ∧ (((gA M_1 27 a1.toNatClampNeg) = 0 → (vp_in a1 60 ∧ (∀ (M_2 : Sg), M_2 = sA M_1 27 a1.toNatClampNeg (vp_nar .boolean (1 : Int32)) → (∃ g41_ : Nat, vX9_shut_41 Q g41_ M_2 a1 (0 : Int32) (0 : Int32))))) ∧ (¬ (gA M_1 27 a1.toNatClampNeg) = 0 → (Q M_1 (-1 : Int32))))))))))
set_option maxHeartbeats 4000000 in
set_option maxRecDepth 100000 in
theorem kX9_shut {l : Launch} {D : va_G} {κ : Nat → ClassId} {η : Nat → Nat} {σ : (Nat → Nat) × (Nat → Nat)} {M : Sg} {a1 : Int32} {Q : Sg → Int32 → Prop} (h : wX9_shut M a1 Q) : Ki (cN σ) D (Ky κ) (mw κ η) l yX9_shut wsX9_shut rmX9_shut [.ref (η 0), .int a1] M Q := by
  refine ofW_g (Qc := fun A => Qi D (Ky κ) (mw κ η) A Q) (cc := cX9_shut) (maxL := 4) (ret := (some .int)) (by decide) rfl (Nat.le_of_ble_eq_true rfl) ?_
  intro p e s m args below meth c A ls X hr hlk hw hl
  have hl : lv_has ls 4 [(0, .ref (η 0)), (1, .int a1)] := hl
  refine lv_aload_n X.1 X.2.1 dX9_shut_0 rfl (lv_at hl 0 rfl) ?_
  refine lv_iconst (v := (0 : Int32)) X.1 X.2.1 dX9_shut_1 (by decide) ?_
  refine r_pf (ty := .int) (w' := mw κ η (sI M 0 (0 : Int32))) X inX9_shut_X9 tyX9_ok nmX9 hw 0 rfl rfl 0 (by decide) (X.2.2.2.2 (.fieldLink RX9 1 "TestHallModel" "thrown" "I") (by decide +kernel)) rfl rfl (by decide +kernel) rfl rfl (Nat.le_of_ble_eq_true rfl) rfl dX9_shut_2 (fun H locs hw => ?_)
  obtain ⟨M_1, eM_1⟩ : ∃ y : Sg, y = sI M 0 (0 : Int32) := ⟨_, rfl⟩
  rw [← eM_1] at hw
  have h := h M_1 eM_1
  refine lv_iload_n X.1 X.2.1 dX9_shut_5 rfl (lv_at hl 1 rfl) ?_
  refine lv_aload_n X.1 X.2.1 dX9_shut_6 rfl (lv_at hl 0 rfl) ?_
  refine r_gf X inX9_shut_X9 hw 0 rfl rfl 24 (by decide) (X.2.2.2.2 (.fieldLink RX9 259 "TestHallModel" "now" "I") (by decide +kernel)) rfl rfl dX9_shut_7 ?_
  obtain ⟨ht_, hf_⟩ := h
  refine lv_icmp_le (tgt := 28) X.1 X.2.1 dX9_shut_10 (by decide) (fun c_ => ?_) (fun c_ => ?_)
  · have h := ht_ c_
    refine lv_iconst (v := (-1 : Int32)) X.1 X.2.1 dX9_shut_28 (by decide) ?_
    exact r_ret X hr hlk hw h dX9_shut_29
  · have h := hf_ c_
    refine lv_iload_n X.1 X.2.1 dX9_shut_13 rfl (lv_at hl 1 rfl) ?_
    refine lv_bipush (v := (59 : Int32)) X.1 X.2.1 dX9_shut_14 (by decide) ?_
    obtain ⟨ht_, hf_⟩ := h
    refine lv_icmp_gt (tgt := 28) X.1 X.2.1 dX9_shut_16 (by decide) (fun c_ => ?_) (fun c_ => ?_)
    · have h := ht_ c_
      refine lv_iconst (v := (-1 : Int32)) X.1 X.2.1 dX9_shut_28 (by decide) ?_
      exact r_ret X hr hlk hw h dX9_shut_29
    · have h := hf_ c_
      refine lv_aload_n X.1 X.2.1 dX9_shut_19 rfl (lv_at hl 0 rfl) ?_
      refine r_gf X inX9_shut_X9 hw 0 rfl rfl 27 (by decide) (X.2.2.2.2 (.fieldLink RX9 88 "TestHallModel" "isShut" "[Z") (by decide +kernel)) rfl rfl dX9_shut_20 ?_
      refine lv_iload_n X.1 X.2.1 dX9_shut_23 rfl (lv_at hl 1 rfl) ?_
      obtain ⟨hi_, h⟩ := h
      refine r_zal X hw 17 1 rfl rfl hi_ dX9_shut_24 ?_
      obtain ⟨ht_, hf_⟩ := h
      refine lv_if_eq (tgt := 30) X.1 X.2.1 dX9_shut_25 (by decide) (fun c_ => ?_) (fun c_ => ?_)
      · have h := ht_ c_
        refine lv_aload_n X.1 X.2.1 dX9_shut_30 rfl (lv_at hl 0 rfl) ?_
        refine r_gf X inX9_shut_X9 hw 0 rfl rfl 27 (by decide) (X.2.2.2.2 (.fieldLink RX9 88 "TestHallModel" "isShut" "[Z") (by decide +kernel)) rfl rfl dX9_shut_31 ?_
        refine lv_iload_n X.1 X.2.1 dX9_shut_34 rfl (lv_at hl 1 rfl) ?_
        refine lv_iconst (v := (1 : Int32)) X.1 X.2.1 dX9_shut_35 (by decide) ?_
        obtain ⟨hi_, h⟩ := h
        refine r_zas (w' := mw κ η (sA M_1 27 a1.toNatClampNeg (vp_nar .boolean (1 : Int32)))) X hw 17 1 rfl rfl hi_ rfl dX9_shut_36 (fun H locs hw => ?_)
        obtain ⟨M_2, eM_2⟩ : ∃ y : Sg, y = sA M_1 27 a1.toNatClampNeg (vp_nar .boolean (1 : Int32)) := ⟨_, rfl⟩
        rw [← eM_2] at hw
        have h := h M_2 eM_2
        refine lv_iconst (v := (0 : Int32)) X.1 X.2.1 dX9_shut_37 (by decide) ?_
        refine lv_istore_n (lv' := [(2, .int (0 : Int32)), (0, .ref (η 0)), (1, .int a1)]) X.1 X.2.1 dX9_shut_38 rfl hl (by decide) rfl (fun ls hl => ?_)
        refine lv_iconst (v := (0 : Int32)) X.1 X.2.1 dX9_shut_39 (by decide) ?_
        refine lv_istore_n (lv' := [(3, .int (0 : Int32)), (2, .int (0 : Int32)), (0, .ref (η 0)), (1, .int a1)]) X.1 X.2.1 dX9_shut_40 rfl hl (by decide) rfl (fun ls hl => ?_)
        obtain ⟨f_, h⟩ := h
        exact bX9_shut_41 X hr hlk f_ M_2 a1 (0 : Int32) (0 : Int32) _ _ _ h hw (lv_sub hl [2, 3, 1, 0] rfl)
      · have h := hf_ c_
        refine lv_iconst (v := (-1 : Int32)) X.1 X.2.1 dX9_shut_28 (by decide) ?_
        exact r_ret X hr hlk hw h dX9_shut_29

theorem inX9_days_X9 : ∀ w ∈ wsX90, w ∈ wsX9_days := fun w h => List.mem_cons_of_mem _ (List.mem_append_right _ h)
abbrev rmX9_days : Room := { frames := 1, cells := 0, slots := 0, locals := 21 }
def vX9_days_80 (K41 : Sg → Int32 → Prop) (Q : Sg → Int32 → Prop) (M : Sg) (x2 : Int32) : Prop := (∀ (x_1 : Int32), x_1 = x2 + (1 : Int32) → (K41 M x_1))
set_option maxHeartbeats 4000000 in
set_option maxRecDepth 100000 in
theorem bX9_days_80 {p : Program} {l : Launch} {e : Env} {s : State} {m : MethodId} {args : Array Value} {below : List Frame} {meth : Method} {c : Code} {D : va_G} {κ : Nat → ClassId} {η : Nat → Nat} {σ : (Nat → Nat) × (Nat → Nat)} {A : Nat → Prop} {Q : Sg → Int32 → Prop} {K41 : Sg → Int32 → Prop} (X : CallFix p m c cX9_days 3 s args wsX9_days RX9) (hr : meth.sig.returnType = (some .int)) (hlk : meth.locks = false) (hK41 : ∀ (M : Sg) (x2 : Int32) (H : Heap) (locs : List Loc) (ls : Array Slot), K41 M x2 → Wd (cN σ) D (Ky κ) A s (mw κ η M) H locs → lv_has ls 3 [(0, .ref (η 0)), (2, .int x2)] → W p l e rmX9_days s m args below meth c H locs 0 0 (MQ below (Qi D (Ky κ) (mw κ η) A Q) args s 0 0 A) (F0 m 41 ls [])) : ∀ (M : Sg) (x2 : Int32) (H : Heap) (locs : List Loc) (ls : Array Slot), vX9_days_80 K41 Q M x2 → Wd (cN σ) D (Ky κ) A s (mw κ η M) H locs → lv_has ls 3 [(0, .ref (η 0)), (2, .int x2)] → W p l e rmX9_days s m args below meth c H locs 0 0 (MQ below (Qi D (Ky κ) (mw κ η) A Q) args s 0 0 A) (F0 m 80 ls []) := by
  intro M x2 H locs ls h hw hl
  obtain ⟨x_1, ex_1⟩ : ∃ y : Int32, y = x2 + (1 : Int32) := ⟨_, rfl⟩
  have h := h x_1 ex_1
  refine lv_iinc (v := x_1) (lv' := [(2, .int x_1), (0, .ref (η 0))]) X.1 X.2.1 dX9_days_80 hl (k := 1) rfl (by rw [ex_1]; rfl) (by decide) rfl (fun ls hl => ?_)
  refine lv_goto (tgt := 41) X.1 X.2.1 dX9_days_83 (by decide) ?_
  exact hK41 M x_1 _ _ _ h hw (lv_sub hl [1, 0] rfl)
def vX9_days_41 (Q : Sg → Int32 → Prop) : Nat → Sg → Int32 → Prop
  | 0, _, _ => False
  | f41_ + 1, M, x2 => (((gI M 30) ≤ x2 → (Q M (gI M 24))) ∧ (¬ (gI M 30) ≤ x2 → (vp_in x2 60 ∧ ((¬ (gA M 38 x2.toNatClampNeg) = (1 : Int32) → (vX9_days_80 (vX9_days_41 Q f41_) Q M x2)) ∧ ((gA M 38 x2.toNatClampNeg) = (1 : Int32) → (vp_in x2 60 ∧ (((gI M 24) ≤ ((gA M 39 x2.toNatClampNeg) / (48 : Int32)) → (vX9_days_80 (vX9_days_41 Q f41_) Q M x2)) ∧ (¬ (gI M 24) ≤ ((gA M 39 x2.toNatClampNeg) / (48 : Int32)) → (wX9_waits M x2 (fun M_1 => (vX9_days_80 (vX9_days_41 Q f41_) Q M_1 x2)))))))))))
set_option maxHeartbeats 4000000 in
set_option maxRecDepth 100000 in
theorem bX9_days_41 {p : Program} {l : Launch} {e : Env} {s : State} {m : MethodId} {args : Array Value} {below : List Frame} {meth : Method} {c : Code} {D : va_G} {κ : Nat → ClassId} {η : Nat → Nat} {σ : (Nat → Nat) × (Nat → Nat)} {A : Nat → Prop} {Q : Sg → Int32 → Prop} (X : CallFix p m c cX9_days 3 s args wsX9_days RX9) (hr : meth.sig.returnType = (some .int)) (hlk : meth.locks = false) : ∀ (f_ : Nat) (M : Sg) (x2 : Int32) (H : Heap) (locs : List Loc) (ls : Array Slot), vX9_days_41 Q f_ M x2 → Wd (cN σ) D (Ky κ) A s (mw κ η M) H locs → lv_has ls 3 [(0, .ref (η 0)), (2, .int x2)] → W p l e rmX9_days s m args below meth c H locs 0 0 (MQ below (Qi D (Ky κ) (mw κ η) A Q) args s 0 0 A) (F0 m 41 ls []) := by
  intro f_
  induction f_ with
  | zero => intro M x2 H locs ls h; exact h.elim
  | succ f_ hK41 =>
    intro M x2 H locs ls h hw hl
    refine lv_iload_n X.1 X.2.1 dX9_days_41 rfl (lv_at hl 1 rfl) ?_
    refine lv_aload_n X.1 X.2.1 dX9_days_42 rfl (lv_at hl 0 rfl) ?_
    refine r_gf X inX9_days_X9 hw 0 rfl rfl 30 (by decide) (X.2.2.2.2 (.fieldLink RX9 256 "TestHallModel" "learners" "I") (by decide +kernel)) rfl rfl dX9_days_43 ?_
    obtain ⟨ht_, hf_⟩ := h
    refine lv_icmp_ge (tgt := 86) X.1 X.2.1 dX9_days_46 (by decide) (fun c_ => ?_) (fun c_ => ?_)
    · have h := ht_ c_
      refine lv_aload_n X.1 X.2.1 dX9_days_86 rfl (lv_at hl 0 rfl) ?_
      refine r_gf X inX9_days_X9 hw 0 rfl rfl 24 (by decide) (X.2.2.2.2 (.fieldLink RX9 259 "TestHallModel" "now" "I") (by decide +kernel)) rfl rfl dX9_days_87 ?_
      exact r_ret X hr hlk hw h dX9_days_90
    · have h := hf_ c_
      refine lv_aload_n X.1 X.2.1 dX9_days_49 rfl (lv_at hl 0 rfl) ?_
      refine r_gf X inX9_days_X9 hw 0 rfl rfl 38 (by decide) (X.2.2.2.2 (.fieldLink RX9 119 "TestHallModel" "state" "[I") (by decide +kernel)) rfl rfl dX9_days_50 ?_
      refine lv_iload_n X.1 X.2.1 dX9_days_53 rfl (lv_at hl 1 rfl) ?_
      obtain ⟨hi_, h⟩ := h
      refine r_ial X hw 27 0 rfl rfl hi_ dX9_days_54 ?_
      refine lv_iconst (v := (1 : Int32)) X.1 X.2.1 dX9_days_55 (by decide) ?_
      obtain ⟨ht_, hf_⟩ := h
      refine lv_icmp_ne (tgt := 80) X.1 X.2.1 dX9_days_56 (by decide) (fun c_ => ?_) (fun c_ => ?_)
      · have h := ht_ c_
        exact bX9_days_80 X hr hlk hK41 M x2 _ _ _ h hw (lv_sub hl [0, 1] rfl)
      · have h := hf_ c_
        refine lv_aload_n X.1 X.2.1 dX9_days_59 rfl (lv_at hl 0 rfl) ?_
        refine r_gf X inX9_days_X9 hw 0 rfl rfl 39 (by decide) (X.2.2.2.2 (.fieldLink RX9 122 "TestHallModel" "slot" "[I") (by decide +kernel)) rfl rfl dX9_days_60 ?_
        refine lv_iload_n X.1 X.2.1 dX9_days_63 rfl (lv_at hl 1 rfl) ?_
        obtain ⟨hi_, h⟩ := h
        refine r_ial X hw 28 0 rfl rfl hi_ dX9_days_64 ?_
        refine lv_bipush (v := (48 : Int32)) X.1 X.2.1 dX9_days_65 (by decide) ?_
        refine lv_idiv X.1 X.2.1 dX9_days_67 (by decide) ?_
        refine lv_aload_n X.1 X.2.1 dX9_days_68 rfl (lv_at hl 0 rfl) ?_
        refine r_gf X inX9_days_X9 hw 0 rfl rfl 24 (by decide) (X.2.2.2.2 (.fieldLink RX9 259 "TestHallModel" "now" "I") (by decide +kernel)) rfl rfl dX9_days_69 ?_
        obtain ⟨ht_, hf_⟩ := h
        refine lv_icmp_ge (tgt := 80) X.1 X.2.1 dX9_days_72 (by decide) (fun c_ => ?_) (fun c_ => ?_)
        · have h := ht_ c_
          exact bX9_days_80 X hr hlk hK41 M x2 _ _ _ h hw (lv_sub hl [0, 1] rfl)
        · have h := hf_ c_
          refine lv_aload_n X.1 X.2.1 dX9_days_75 rfl (lv_at hl 0 rfl) ?_
          refine lv_iload_n X.1 X.2.1 dX9_days_76 rfl (lv_at hl 1 rfl) ?_
          refine r_Vv (As := [.int x2]) (rest := []) X cN_ok (kX9_waits h) (cwV 1 X.2.2.2.2 gX9_days_X9_waits rfl rfl rfl (by decide +kernel) ⟨Nat.le_of_ble_eq_true rfl, Nat.le_of_ble_eq_true rfl⟩) hw 0 8 rfl rfl rfl hl.1 rfl (Nat.le_of_ble_eq_true rfl) dX9_days_77 (fun M_1 H locs h hw => ?_)
          exact bX9_days_80 X hr hlk hK41 M_1 x2 _ _ _ h hw (lv_sub hl [0, 1] rfl)
def wX9_days (M : Sg) (a1 : Int32) (Q : Sg → Int32 → Prop) : Prop := (∀ (M_1 : Sg), M_1 = sI M 0 (0 : Int32) → ((a1 < (1 : Int32) → (Q M_1 (-1 : Int32))) ∧ (¬ a1 < (1 : Int32) → (((59 : Int32) < a1 → (Q M_1 (-1 : Int32))) ∧ (¬ (59 : Int32) < a1 → ((((gI M_1 24) + a1) ≤ (59 : Int32) → (∀ (M_2 : Sg), M_2 = sI M_1 24 ((gI M_1 24) + a1) → (∃ g41_ : Nat, vX9_days_41 Q g41_ M_2 (0 : Int32)))) ∧ (¬ ((gI M_1 24) + a1) ≤ (59 : Int32) → (Q M_1 (-1 : Int32)))))))))
set_option maxHeartbeats 4000000 in
set_option maxRecDepth 100000 in
theorem kX9_days {l : Launch} {D : va_G} {κ : Nat → ClassId} {η : Nat → Nat} {σ : (Nat → Nat) × (Nat → Nat)} {M : Sg} {a1 : Int32} {Q : Sg → Int32 → Prop} (h : wX9_days M a1 Q) : Ki (cN σ) D (Ky κ) (mw κ η) l yX9_days wsX9_days rmX9_days [.ref (η 0), .int a1] M Q := by
  refine ofW_g (Qc := fun A => Qi D (Ky κ) (mw κ η) A Q) (cc := cX9_days) (maxL := 3) (ret := (some .int)) (by decide) rfl (Nat.le_of_ble_eq_true rfl) ?_
  intro p e s m args below meth c A ls X hr hlk hw hl
  have hl : lv_has ls 3 [(0, .ref (η 0)), (1, .int a1)] := hl
  refine lv_aload_n X.1 X.2.1 dX9_days_0 rfl (lv_at hl 0 rfl) ?_
  refine lv_iconst (v := (0 : Int32)) X.1 X.2.1 dX9_days_1 (by decide) ?_
  refine r_pf (ty := .int) (w' := mw κ η (sI M 0 (0 : Int32))) X inX9_days_X9 tyX9_ok nmX9 hw 0 rfl rfl 0 (by decide) (X.2.2.2.2 (.fieldLink RX9 1 "TestHallModel" "thrown" "I") (by decide +kernel)) rfl rfl (by decide +kernel) rfl rfl (Nat.le_of_ble_eq_true rfl) rfl dX9_days_2 (fun H locs hw => ?_)
  obtain ⟨M_1, eM_1⟩ : ∃ y : Sg, y = sI M 0 (0 : Int32) := ⟨_, rfl⟩
  rw [← eM_1] at hw
  have h := h M_1 eM_1
  refine lv_iload_n X.1 X.2.1 dX9_days_5 rfl (lv_at hl 1 rfl) ?_
  refine lv_iconst (v := (1 : Int32)) X.1 X.2.1 dX9_days_6 (by decide) ?_
  obtain ⟨ht_, hf_⟩ := h
  refine lv_icmp_lt (tgt := 27) X.1 X.2.1 dX9_days_7 (by decide) (fun c_ => ?_) (fun c_ => ?_)
  · have h := ht_ c_
    refine lv_iconst (v := (-1 : Int32)) X.1 X.2.1 dX9_days_27 (by decide) ?_
    exact r_ret X hr hlk hw h dX9_days_28
  · have h := hf_ c_
    refine lv_iload_n X.1 X.2.1 dX9_days_10 rfl (lv_at hl 1 rfl) ?_
    refine lv_bipush (v := (59 : Int32)) X.1 X.2.1 dX9_days_11 (by decide) ?_
    obtain ⟨ht_, hf_⟩ := h
    refine lv_icmp_gt (tgt := 27) X.1 X.2.1 dX9_days_13 (by decide) (fun c_ => ?_) (fun c_ => ?_)
    · have h := ht_ c_
      refine lv_iconst (v := (-1 : Int32)) X.1 X.2.1 dX9_days_27 (by decide) ?_
      exact r_ret X hr hlk hw h dX9_days_28
    · have h := hf_ c_
      refine lv_aload_n X.1 X.2.1 dX9_days_16 rfl (lv_at hl 0 rfl) ?_
      refine r_gf X inX9_days_X9 hw 0 rfl rfl 24 (by decide) (X.2.2.2.2 (.fieldLink RX9 259 "TestHallModel" "now" "I") (by decide +kernel)) rfl rfl dX9_days_17 ?_
      refine lv_iload_n X.1 X.2.1 dX9_days_20 rfl (lv_at hl 1 rfl) ?_
      refine lv_iadd X.1 X.2.1 dX9_days_21 ?_
      refine lv_bipush (v := (59 : Int32)) X.1 X.2.1 dX9_days_22 (by decide) ?_
      obtain ⟨ht_, hf_⟩ := h
      refine lv_icmp_le (tgt := 29) X.1 X.2.1 dX9_days_24 (by decide) (fun c_ => ?_) (fun c_ => ?_)
      · have h := ht_ c_
        refine lv_aload_n X.1 X.2.1 dX9_days_29 rfl (lv_at hl 0 rfl) ?_
        refine lv_dup X.1 X.2.1 dX9_days_30 rfl ?_
        refine r_gf X inX9_days_X9 hw 0 rfl rfl 24 (by decide) (X.2.2.2.2 (.fieldLink RX9 259 "TestHallModel" "now" "I") (by decide +kernel)) rfl rfl dX9_days_31 ?_
        refine lv_iload_n X.1 X.2.1 dX9_days_34 rfl (lv_at hl 1 rfl) ?_
        refine lv_iadd X.1 X.2.1 dX9_days_35 ?_
        refine r_pf (ty := .int) (w' := mw κ η (sI M_1 24 ((gI M_1 24) + a1))) X inX9_days_X9 tyX9_ok nmX9 hw 0 rfl rfl 24 (by decide) (X.2.2.2.2 (.fieldLink RX9 259 "TestHallModel" "now" "I") (by decide +kernel)) rfl rfl (by decide +kernel) rfl rfl (Nat.le_of_ble_eq_true rfl) rfl dX9_days_36 (fun H locs hw => ?_)
        obtain ⟨M_2, eM_2⟩ : ∃ y : Sg, y = sI M_1 24 ((gI M_1 24) + a1) := ⟨_, rfl⟩
        rw [← eM_2] at hw
        have h := h M_2 eM_2
        refine lv_iconst (v := (0 : Int32)) X.1 X.2.1 dX9_days_39 (by decide) ?_
        refine lv_istore_n (lv' := [(2, .int (0 : Int32)), (0, .ref (η 0)), (1, .int a1)]) X.1 X.2.1 dX9_days_40 rfl hl (by decide) rfl (fun ls hl => ?_)
        obtain ⟨f_, h⟩ := h
        exact bX9_days_41 X hr hlk f_ M_2 (0 : Int32) _ _ _ h hw (lv_sub hl [1, 0] rfl)
      · have h := hf_ c_
        refine lv_iconst (v := (-1 : Int32)) X.1 X.2.1 dX9_days_27 (by decide) ?_
        exact r_ret X hr hlk hw h dX9_days_28

theorem inX9_held_X9 : ∀ w ∈ wsX90, w ∈ wsX9_held := fun w h => List.mem_cons_of_mem _ (List.mem_append_right _ h)
abbrev rmX9_held : Room := { frames := 1, cells := 0, slots := 0, locals := 21 }
def vX9_held_125 (Q : Sg → Int32 → Prop) (M : Sg) (s0 : Int32) (s1 : Int32) (s2 : Int32) : Prop := (vp_in s2 60 ∧ (∀ (M_1 : Sg), M_1 = sA M 40 s2.toNatClampNeg (s1 + s0) → (Q M_1 (1 : Int32))))
set_option maxHeartbeats 4000000 in
set_option maxRecDepth 100000 in
theorem bX9_held_125 {p : Program} {l : Launch} {e : Env} {s : State} {m : MethodId} {args : Array Value} {below : List Frame} {meth : Method} {c : Code} {D : va_G} {κ : Nat → ClassId} {η : Nat → Nat} {σ : (Nat → Nat) × (Nat → Nat)} {A : Nat → Prop} {Q : Sg → Int32 → Prop} (X : CallFix p m c cX9_held 4 s args wsX9_held RX9) (hr : meth.sig.returnType = (some .boolean)) (hlk : meth.locks = false) : ∀ (M : Sg) (s0 : Int32) (s1 : Int32) (s2 : Int32) (H : Heap) (locs : List Loc) (ls : Array Slot), vX9_held_125 Q M s0 s1 s2 → Wd (cN σ) D (Ky κ) A s (mw κ η M) H locs → lv_has ls 4 [] → W p l e rmX9_held s m args below meth c H locs 0 0 (MQ below (Qi D (Ky κ) (mw κ η) A Q) args s 0 0 A) (F0 m 125 ls [.int s0, .int s1, .int s2, .ref (η 29)]) := by
  intro M s0 s1 s2 H locs ls h hw hl
  refine lv_iadd X.1 X.2.1 dX9_held_125 ?_
  obtain ⟨hi_, h⟩ := h
  refine r_ias (w' := mw κ η (sA M 40 s2.toNatClampNeg (s1 + s0))) X hw 29 0 rfl rfl hi_ rfl dX9_held_126 (fun H locs hw => ?_)
  obtain ⟨M_1, eM_1⟩ : ∃ y : Sg, y = sA M 40 s2.toNatClampNeg (s1 + s0) := ⟨_, rfl⟩
  rw [← eM_1] at hw
  have h := h M_1 eM_1
  refine lv_iconst (v := (1 : Int32)) X.1 X.2.1 dX9_held_127 (by decide) ?_
  exact r_zret X hr hlk hw rfl h dX9_held_128
def vX9_held_108 (Q : Sg → Int32 → Prop) (M : Sg) (x1 : Int32) (x2 : Int32) (s0 : Int32) (s1 : Int32) : Prop := (vp_in s1 60 ∧ (∀ (M_1 : Sg), M_1 = sA M 38 s1.toNatClampNeg s0 → (vp_in x1 60 ∧ ((x2 = 0 → (vX9_held_125 Q M_1 (1 : Int32) (gA M_1 40 x1.toNatClampNeg) x1)) ∧ (¬ x2 = 0 → (vX9_held_125 Q M_1 (0 : Int32) (gA M_1 40 x1.toNatClampNeg) x1))))))
set_option maxHeartbeats 4000000 in
set_option maxRecDepth 100000 in
theorem bX9_held_108 {p : Program} {l : Launch} {e : Env} {s : State} {m : MethodId} {args : Array Value} {below : List Frame} {meth : Method} {c : Code} {D : va_G} {κ : Nat → ClassId} {η : Nat → Nat} {σ : (Nat → Nat) × (Nat → Nat)} {A : Nat → Prop} {Q : Sg → Int32 → Prop} (X : CallFix p m c cX9_held 4 s args wsX9_held RX9) (hr : meth.sig.returnType = (some .boolean)) (hlk : meth.locks = false) : ∀ (M : Sg) (x1 : Int32) (x2 : Int32) (s0 : Int32) (s1 : Int32) (H : Heap) (locs : List Loc) (ls : Array Slot), vX9_held_108 Q M x1 x2 s0 s1 → Wd (cN σ) D (Ky κ) A s (mw κ η M) H locs → lv_has ls 4 [(0, .ref (η 0)), (1, .int x1), (2, .int x2)] → W p l e rmX9_held s m args below meth c H locs 0 0 (MQ below (Qi D (Ky κ) (mw κ η) A Q) args s 0 0 A) (F0 m 108 ls [.int s0, .int s1, .ref (η 27)]) := by
  intro M x1 x2 s0 s1 H locs ls h hw hl
  obtain ⟨hi_, h⟩ := h
  refine r_ias (w' := mw κ η (sA M 38 s1.toNatClampNeg s0)) X hw 27 0 rfl rfl hi_ rfl dX9_held_108 (fun H locs hw => ?_)
  obtain ⟨M_1, eM_1⟩ : ∃ y : Sg, y = sA M 38 s1.toNatClampNeg s0 := ⟨_, rfl⟩
  rw [← eM_1] at hw
  have h := h M_1 eM_1
  refine lv_aload_n X.1 X.2.1 dX9_held_109 rfl (lv_at hl 0 rfl) ?_
  refine r_gf X inX9_held_X9 hw 0 rfl rfl 40 (by decide) (X.2.2.2.2 (.fieldLink RX9 125 "TestHallModel" "tries" "[I") (by decide +kernel)) rfl rfl dX9_held_110 ?_
  refine lv_iload_n X.1 X.2.1 dX9_held_113 rfl (lv_at hl 1 rfl) ?_
  refine lv_dup2_11 X.1 X.2.1 dX9_held_114 rfl rfl ?_
  obtain ⟨hi_, h⟩ := h
  refine r_ial X hw 29 0 rfl rfl hi_ dX9_held_115 ?_
  refine lv_iload_n X.1 X.2.1 dX9_held_116 rfl (lv_at hl 2 rfl) ?_
  obtain ⟨ht_, hf_⟩ := h
  refine lv_if_eq (tgt := 124) X.1 X.2.1 dX9_held_117 (by decide) (fun c_ => ?_) (fun c_ => ?_)
  · have h := ht_ c_
    refine lv_iconst (v := (1 : Int32)) X.1 X.2.1 dX9_held_124 (by decide) ?_
    exact bX9_held_125 X hr hlk M_1 (1 : Int32) (gA M_1 40 x1.toNatClampNeg) x1 _ _ _ h hw (lv_sub hl [] rfl)
  · have h := hf_ c_
    refine lv_iconst (v := (0 : Int32)) X.1 X.2.1 dX9_held_120 (by decide) ?_
    refine lv_goto (tgt := 125) X.1 X.2.1 dX9_held_121 (by decide) ?_
    exact bX9_held_125 X hr hlk M_1 (0 : Int32) (gA M_1 40 x1.toNatClampNeg) x1 _ _ _ h hw (lv_sub hl [] rfl)
def vX9_held_77 (Q : Sg → Int32 → Prop) (M : Sg) (x1 : Int32) (x2 : Int32) (s0 : Int32) (s1 : Int32) (s2 : Int32) : Prop := (vp_in s2 8 ∧ (∀ (M_1 : Sg), M_1 = sA M 29 s2.toNatClampNeg (s1 + s0) → (∀ (M_2 : Sg), M_2 = sI M_1 42 ((gI M_1 42) + (1 : Int32)) → (wX9_waits M_2 x1 (fun M_3 => ((x2 = 0 → (vX9_held_108 Q M_3 x1 x2 (0 : Int32) x1)) ∧ (¬ x2 = 0 → (vX9_held_108 Q M_3 x1 x2 (2 : Int32) x1))))))))
set_option maxHeartbeats 4000000 in
set_option maxRecDepth 100000 in
theorem bX9_held_77 {p : Program} {l : Launch} {e : Env} {s : State} {m : MethodId} {args : Array Value} {below : List Frame} {meth : Method} {c : Code} {D : va_G} {κ : Nat → ClassId} {η : Nat → Nat} {σ : (Nat → Nat) × (Nat → Nat)} {A : Nat → Prop} {Q : Sg → Int32 → Prop} (X : CallFix p m c cX9_held 4 s args wsX9_held RX9) (hr : meth.sig.returnType = (some .boolean)) (hlk : meth.locks = false) : ∀ (M : Sg) (x1 : Int32) (x2 : Int32) (s0 : Int32) (s1 : Int32) (s2 : Int32) (H : Heap) (locs : List Loc) (ls : Array Slot), vX9_held_77 Q M x1 x2 s0 s1 s2 → Wd (cN σ) D (Ky κ) A s (mw κ η M) H locs → lv_has ls 4 [(0, .ref (η 0)), (1, .int x1), (2, .int x2)] → W p l e rmX9_held s m args below meth c H locs 0 0 (MQ below (Qi D (Ky κ) (mw κ η) A Q) args s 0 0 A) (F0 m 77 ls [.int s0, .int s1, .int s2, .ref (η 19)]) := by
  intro M x1 x2 s0 s1 s2 H locs ls h hw hl
  refine lv_iadd X.1 X.2.1 dX9_held_77 ?_
  obtain ⟨hi_, h⟩ := h
  refine r_ias (w' := mw κ η (sA M 29 s2.toNatClampNeg (s1 + s0))) X hw 19 0 rfl rfl hi_ rfl dX9_held_78 (fun H locs hw => ?_)
  obtain ⟨M_1, eM_1⟩ : ∃ y : Sg, y = sA M 29 s2.toNatClampNeg (s1 + s0) := ⟨_, rfl⟩
  rw [← eM_1] at hw
  have h := h M_1 eM_1
  refine lv_aload_n X.1 X.2.1 dX9_held_79 rfl (lv_at hl 0 rfl) ?_
  refine lv_dup X.1 X.2.1 dX9_held_80 rfl ?_
  refine r_gf X inX9_held_X9 hw 0 rfl rfl 42 (by decide) (X.2.2.2.2 (.fieldLink RX9 305 "TestHallModel" "held" "I") (by decide +kernel)) rfl rfl dX9_held_81 ?_
  refine lv_iconst (v := (1 : Int32)) X.1 X.2.1 dX9_held_84 (by decide) ?_
  refine lv_iadd X.1 X.2.1 dX9_held_85 ?_
  refine r_pf (ty := .int) (w' := mw κ η (sI M_1 42 ((gI M_1 42) + (1 : Int32)))) X inX9_held_X9 tyX9_ok nmX9 hw 0 rfl rfl 42 (by decide) (X.2.2.2.2 (.fieldLink RX9 305 "TestHallModel" "held" "I") (by decide +kernel)) rfl rfl (by decide +kernel) rfl rfl (Nat.le_of_ble_eq_true rfl) rfl dX9_held_86 (fun H locs hw => ?_)
  obtain ⟨M_2, eM_2⟩ : ∃ y : Sg, y = sI M_1 42 ((gI M_1 42) + (1 : Int32)) := ⟨_, rfl⟩
  rw [← eM_2] at hw
  have h := h M_2 eM_2
  refine lv_aload_n X.1 X.2.1 dX9_held_89 rfl (lv_at hl 0 rfl) ?_
  refine lv_iload_n X.1 X.2.1 dX9_held_90 rfl (lv_at hl 1 rfl) ?_
  refine r_Vv (As := [.int x1]) (rest := []) X cN_ok (kX9_waits h) (cwV 1 X.2.2.2.2 gX9_held_X9_waits rfl rfl rfl (by decide +kernel) ⟨Nat.le_of_ble_eq_true rfl, Nat.le_of_ble_eq_true rfl⟩) hw 0 8 rfl rfl rfl hl.1 rfl (Nat.le_of_ble_eq_true rfl) dX9_held_91 (fun M_3 H locs h hw => ?_)
  refine lv_aload_n X.1 X.2.1 dX9_held_94 rfl (lv_at hl 0 rfl) ?_
  refine r_gf X inX9_held_X9 hw 0 rfl rfl 38 (by decide) (X.2.2.2.2 (.fieldLink RX9 119 "TestHallModel" "state" "[I") (by decide +kernel)) rfl rfl dX9_held_95 ?_
  refine lv_iload_n X.1 X.2.1 dX9_held_98 rfl (lv_at hl 1 rfl) ?_
  refine lv_iload_n X.1 X.2.1 dX9_held_99 rfl (lv_at hl 2 rfl) ?_
  obtain ⟨ht_, hf_⟩ := h
  refine lv_if_eq (tgt := 107) X.1 X.2.1 dX9_held_100 (by decide) (fun c_ => ?_) (fun c_ => ?_)
  · have h := ht_ c_
    refine lv_iconst (v := (0 : Int32)) X.1 X.2.1 dX9_held_107 (by decide) ?_
    exact bX9_held_108 X hr hlk M_3 x1 x2 (0 : Int32) x1 _ _ _ h hw (lv_sub hl [0, 1, 2] rfl)
  · have h := hf_ c_
    refine lv_iconst (v := (2 : Int32)) X.1 X.2.1 dX9_held_103 (by decide) ?_
    refine lv_goto (tgt := 108) X.1 X.2.1 dX9_held_104 (by decide) ?_
    exact bX9_held_108 X hr hlk M_3 x1 x2 (2 : Int32) x1 _ _ _ h hw (lv_sub hl [0, 1, 2] rfl)
def wX9_held (M : Sg) (a1 : Int32) (a2 : Int32) (Q : Sg → Int32 → Prop) : Prop := (∀ (M_1 : Sg), M_1 = sI M 0 (0 : Int32) → (wX9_isLearner M_1 a1 (fun M_2 r_3 => ((r_3 = 0 → (Q M_2 (0 : Int32))) ∧ (¬ r_3 = 0 → (vp_in a1 60 ∧ ((¬ (gA M_2 38 a1.toNatClampNeg) = (1 : Int32) → (Q M_2 (0 : Int32))) ∧ ((gA M_2 38 a1.toNatClampNeg) = (1 : Int32) → (vp_in a1 60 ∧ ((((gA M_2 39 a1.toNatClampNeg) / (48 : Int32)) = (gI M_2 24) → (vp_in a1 60 ∧ (∀ (x_4 : Int32), x_4 = ((gA M_2 39 a1.toNatClampNeg) - (gA M_2 39 a1.toNatClampNeg) / (8 : Int32) * (8 : Int32)) → (vp_in x_4 8 ∧ (vp_in x_4 8 ∧ (∀ (M_5 : Sg), M_5 = sA M_2 28 x_4.toNatClampNeg ((gA M_2 28 x_4.toNatClampNeg) + (1 : Int32)) → (vp_in x_4 8 ∧ ((a2 = 0 → (vX9_held_77 Q M_5 a1 a2 (0 : Int32) (gA M_5 29 x_4.toNatClampNeg) x_4)) ∧ (¬ a2 = 0 → (vX9_held_77 Q M_5 a1 a2 (1 : Int32) (gA M_5 29 x_4.toNatClampNeg) x_4)))))))))) ∧ (¬ ((gA M_2 39 a1.toNatClampNeg) / (48 : Int32)) = (gI M_2 24) → (Q M_2 (0 : Int32)))))))))))))
set_option maxHeartbeats 4000000 in
set_option maxRecDepth 100000 in
theorem kX9_held {l : Launch} {D : va_G} {κ : Nat → ClassId} {η : Nat → Nat} {σ : (Nat → Nat) × (Nat → Nat)} {M : Sg} {a1 : Int32} {a2 : Int32} {Q : Sg → Int32 → Prop} (h : wX9_held M a1 a2 Q) : Ki (cN σ) D (Ky κ) (mw κ η) l yX9_held wsX9_held rmX9_held [.ref (η 0), .int a1, .int a2] M Q := by
  refine ofW_g (Qc := fun A => Qi D (Ky κ) (mw κ η) A Q) (cc := cX9_held) (maxL := 4) (ret := (some .boolean)) (by decide) rfl (Nat.le_of_ble_eq_true rfl) ?_
  intro p e s m args below meth c A ls X hr hlk hw hl
  have hl : lv_has ls 4 [(0, .ref (η 0)), (1, .int a1), (2, .int a2)] := hl
  refine lv_aload_n X.1 X.2.1 dX9_held_0 rfl (lv_at hl 0 rfl) ?_
  refine lv_iconst (v := (0 : Int32)) X.1 X.2.1 dX9_held_1 (by decide) ?_
  refine r_pf (ty := .int) (w' := mw κ η (sI M 0 (0 : Int32))) X inX9_held_X9 tyX9_ok nmX9 hw 0 rfl rfl 0 (by decide) (X.2.2.2.2 (.fieldLink RX9 1 "TestHallModel" "thrown" "I") (by decide +kernel)) rfl rfl (by decide +kernel) rfl rfl (Nat.le_of_ble_eq_true rfl) rfl dX9_held_2 (fun H locs hw => ?_)
  obtain ⟨M_1, eM_1⟩ : ∃ y : Sg, y = sI M 0 (0 : Int32) := ⟨_, rfl⟩
  rw [← eM_1] at hw
  have h := h M_1 eM_1
  refine lv_aload_n X.1 X.2.1 dX9_held_5 rfl (lv_at hl 0 rfl) ?_
  refine lv_iload_n X.1 X.2.1 dX9_held_6 rfl (lv_at hl 1 rfl) ?_
  refine r_Vi (As := [.int a1]) (rest := []) X cN_ok (kX9_isLearner h) (cwV 1 X.2.2.2.2 gX9_held_X9_isLearner rfl rfl rfl (by decide +kernel) ⟨Nat.le_of_ble_eq_true rfl, Nat.le_of_ble_eq_true rfl⟩) hw 0 8 rfl rfl rfl hl.1 rfl (Nat.le_of_ble_eq_true rfl) dX9_held_7 (fun r_3 M_2 H locs h hw => ?_)
  obtain ⟨ht_, hf_⟩ := h
  refine lv_if_eq (tgt := 39) X.1 X.2.1 dX9_held_10 (by decide) (fun c_ => ?_) (fun c_ => ?_)
  · have h := ht_ c_
    refine lv_iconst (v := (0 : Int32)) X.1 X.2.1 dX9_held_39 (by decide) ?_
    exact r_zret X hr hlk hw rfl h dX9_held_40
  · have h := hf_ c_
    refine lv_aload_n X.1 X.2.1 dX9_held_13 rfl (lv_at hl 0 rfl) ?_
    refine r_gf X inX9_held_X9 hw 0 rfl rfl 38 (by decide) (X.2.2.2.2 (.fieldLink RX9 119 "TestHallModel" "state" "[I") (by decide +kernel)) rfl rfl dX9_held_14 ?_
    refine lv_iload_n X.1 X.2.1 dX9_held_17 rfl (lv_at hl 1 rfl) ?_
    obtain ⟨hi_, h⟩ := h
    refine r_ial X hw 27 0 rfl rfl hi_ dX9_held_18 ?_
    refine lv_iconst (v := (1 : Int32)) X.1 X.2.1 dX9_held_19 (by decide) ?_
    obtain ⟨ht_, hf_⟩ := h
    refine lv_icmp_ne (tgt := 39) X.1 X.2.1 dX9_held_20 (by decide) (fun c_ => ?_) (fun c_ => ?_)
    · have h := ht_ c_
      refine lv_iconst (v := (0 : Int32)) X.1 X.2.1 dX9_held_39 (by decide) ?_
      exact r_zret X hr hlk hw rfl h dX9_held_40
    · have h := hf_ c_
      refine lv_aload_n X.1 X.2.1 dX9_held_23 rfl (lv_at hl 0 rfl) ?_
      refine r_gf X inX9_held_X9 hw 0 rfl rfl 39 (by decide) (X.2.2.2.2 (.fieldLink RX9 122 "TestHallModel" "slot" "[I") (by decide +kernel)) rfl rfl dX9_held_24 ?_
      refine lv_iload_n X.1 X.2.1 dX9_held_27 rfl (lv_at hl 1 rfl) ?_
      obtain ⟨hi_, h⟩ := h
      refine r_ial X hw 28 0 rfl rfl hi_ dX9_held_28 ?_
      refine lv_bipush (v := (48 : Int32)) X.1 X.2.1 dX9_held_29 (by decide) ?_
      refine lv_idiv X.1 X.2.1 dX9_held_31 (by decide) ?_
      refine lv_aload_n X.1 X.2.1 dX9_held_32 rfl (lv_at hl 0 rfl) ?_
      refine r_gf X inX9_held_X9 hw 0 rfl rfl 24 (by decide) (X.2.2.2.2 (.fieldLink RX9 259 "TestHallModel" "now" "I") (by decide +kernel)) rfl rfl dX9_held_33 ?_
      obtain ⟨ht_, hf_⟩ := h
      refine lv_icmp_eq (tgt := 41) X.1 X.2.1 dX9_held_36 (by decide) (fun c_ => ?_) (fun c_ => ?_)
      · have h := ht_ c_
        refine lv_aload_n X.1 X.2.1 dX9_held_41 rfl (lv_at hl 0 rfl) ?_
        refine r_gf X inX9_held_X9 hw 0 rfl rfl 39 (by decide) (X.2.2.2.2 (.fieldLink RX9 122 "TestHallModel" "slot" "[I") (by decide +kernel)) rfl rfl dX9_held_42 ?_
        refine lv_iload_n X.1 X.2.1 dX9_held_45 rfl (lv_at hl 1 rfl) ?_
        obtain ⟨hi_, h⟩ := h
        refine r_ial X hw 28 0 rfl rfl hi_ dX9_held_46 ?_
        refine lv_bipush (v := (8 : Int32)) X.1 X.2.1 dX9_held_47 (by decide) ?_
        refine lv_irem X.1 X.2.1 dX9_held_49 (by decide) ?_
        refine lv_topi (fun x_4 ex_4 => ?_)
        have h := h x_4 ex_4
        refine lv_istore_n (lv' := [(3, .int x_4), (0, .ref (η 0)), (1, .int a1), (2, .int a2)]) X.1 X.2.1 dX9_held_50 rfl hl (by decide) rfl (fun ls hl => ?_)
        refine lv_aload_n X.1 X.2.1 dX9_held_51 rfl (lv_at hl 1 rfl) ?_
        refine r_gf X inX9_held_X9 hw 0 rfl rfl 28 (by decide) (X.2.2.2.2 (.fieldLink RX9 92 "TestHallModel" "tests" "[I") (by decide +kernel)) rfl rfl dX9_held_52 ?_
        refine lv_iload_n X.1 X.2.1 dX9_held_55 rfl (lv_at hl 0 rfl) ?_
        refine lv_dup2_11 X.1 X.2.1 dX9_held_56 rfl rfl ?_
        obtain ⟨hi_, h⟩ := h
        refine r_ial X hw 18 0 rfl rfl hi_ dX9_held_57 ?_
        refine lv_iconst (v := (1 : Int32)) X.1 X.2.1 dX9_held_58 (by decide) ?_
        refine lv_iadd X.1 X.2.1 dX9_held_59 ?_
        obtain ⟨hi_, h⟩ := h
        refine r_ias (w' := mw κ η (sA M_2 28 x_4.toNatClampNeg ((gA M_2 28 x_4.toNatClampNeg) + (1 : Int32)))) X hw 18 0 rfl rfl hi_ rfl dX9_held_60 (fun H locs hw => ?_)
        obtain ⟨M_5, eM_5⟩ : ∃ y : Sg, y = sA M_2 28 x_4.toNatClampNeg ((gA M_2 28 x_4.toNatClampNeg) + (1 : Int32)) := ⟨_, rfl⟩
        rw [← eM_5] at hw
        have h := h M_5 eM_5
        refine lv_aload_n X.1 X.2.1 dX9_held_61 rfl (lv_at hl 1 rfl) ?_
        refine r_gf X inX9_held_X9 hw 0 rfl rfl 29 (by decide) (X.2.2.2.2 (.fieldLink RX9 95 "TestHallModel" "passes" "[I") (by decide +kernel)) rfl rfl dX9_held_62 ?_
        refine lv_iload_n X.1 X.2.1 dX9_held_65 rfl (lv_at hl 0 rfl) ?_
        refine lv_dup2_11 X.1 X.2.1 dX9_held_66 rfl rfl ?_
        obtain ⟨hi_, h⟩ := h
        refine r_ial X hw 19 0 rfl rfl hi_ dX9_held_67 ?_
        refine lv_iload_n X.1 X.2.1 dX9_held_68 rfl (lv_at hl 3 rfl) ?_
        obtain ⟨ht_, hf_⟩ := h
        refine lv_if_eq (tgt := 76) X.1 X.2.1 dX9_held_69 (by decide) (fun c_ => ?_) (fun c_ => ?_)
        · have h := ht_ c_
          refine lv_iconst (v := (0 : Int32)) X.1 X.2.1 dX9_held_76 (by decide) ?_
          exact bX9_held_77 X hr hlk M_5 a1 a2 (0 : Int32) (gA M_5 29 x_4.toNatClampNeg) x_4 _ _ _ h hw (lv_sub hl [1, 2, 3] rfl)
        · have h := hf_ c_
          refine lv_iconst (v := (1 : Int32)) X.1 X.2.1 dX9_held_72 (by decide) ?_
          refine lv_goto (tgt := 77) X.1 X.2.1 dX9_held_73 (by decide) ?_
          exact bX9_held_77 X hr hlk M_5 a1 a2 (1 : Int32) (gA M_5 29 x_4.toNatClampNeg) x_4 _ _ _ h hw (lv_sub hl [1, 2, 3] rfl)
      · have h := hf_ c_
        refine lv_iconst (v := (0 : Int32)) X.1 X.2.1 dX9_held_39 (by decide) ?_
        exact r_zret X hr hlk hw rfl h dX9_held_40

theorem inX9_placeOf_X9 : ∀ w ∈ wsX90, w ∈ wsX9_placeOf := fun w h => List.mem_cons_of_mem _ (List.mem_append_right _ h)
abbrev rmX9_placeOf : Room := { frames := 3, cells := 0, slots := 0, locals := 69 }
def vX9_placeOf_51 (K19 : Sg → Int32 → Int32 → Int32 → Prop) (Q : Sg → Int32 → Prop) (M : Sg) (x1 : Int32) (x3 : Int32) (s0 : Int32) (s1 : Int32) : Prop := (∀ (x_1 : Int32), x_1 = (s1 + s0) → (∀ (x_2 : Int32), x_2 = x3 + (1 : Int32) → (K19 M x1 x_1 x_2)))
set_option maxHeartbeats 4000000 in
set_option maxRecDepth 100000 in
theorem bX9_placeOf_51 {p : Program} {l : Launch} {e : Env} {s : State} {m : MethodId} {args : Array Value} {below : List Frame} {meth : Method} {c : Code} {D : va_G} {κ : Nat → ClassId} {η : Nat → Nat} {σ : (Nat → Nat) × (Nat → Nat)} {A : Nat → Prop} {Q : Sg → Int32 → Prop} {K19 : Sg → Int32 → Int32 → Int32 → Prop} (X : CallFix p m c cX9_placeOf 4 s args wsX9_placeOf RX9) (hr : meth.sig.returnType = (some .int)) (hlk : meth.locks = false) (hK19 : ∀ (M : Sg) (x1 : Int32) (x2 : Int32) (x3 : Int32) (H : Heap) (locs : List Loc) (ls : Array Slot), K19 M x1 x2 x3 → Wd (cN σ) D (Ky κ) A s (mw κ η M) H locs → lv_has ls 4 [(0, .ref (η 0)), (1, .int x1), (2, .int x2), (3, .int x3)] → W p l e rmX9_placeOf s m args below meth c H locs 0 0 (MQ below (Qi D (Ky κ) (mw κ η) A Q) args s 0 0 A) (F0 m 19 ls [])) : ∀ (M : Sg) (x1 : Int32) (x3 : Int32) (s0 : Int32) (s1 : Int32) (H : Heap) (locs : List Loc) (ls : Array Slot), vX9_placeOf_51 K19 Q M x1 x3 s0 s1 → Wd (cN σ) D (Ky κ) A s (mw κ η M) H locs → lv_has ls 4 [(0, .ref (η 0)), (1, .int x1), (3, .int x3)] → W p l e rmX9_placeOf s m args below meth c H locs 0 0 (MQ below (Qi D (Ky κ) (mw κ η) A Q) args s 0 0 A) (F0 m 51 ls [.int s0, .int s1]) := by
  intro M x1 x3 s0 s1 H locs ls h hw hl
  refine lv_iadd X.1 X.2.1 dX9_placeOf_51 ?_
  refine lv_topi (fun x_1 ex_1 => ?_)
  have h := h x_1 ex_1
  refine lv_istore_n (lv' := [(2, .int x_1), (0, .ref (η 0)), (1, .int x1), (3, .int x3)]) X.1 X.2.1 dX9_placeOf_52 rfl hl (by decide) rfl (fun ls hl => ?_)
  obtain ⟨x_2, ex_2⟩ : ∃ y : Int32, y = x3 + (1 : Int32) := ⟨_, rfl⟩
  have h := h x_2 ex_2
  refine lv_iinc (v := x_2) (lv' := [(3, .int x_2), (2, .int x_1), (0, .ref (η 0)), (1, .int x1)]) X.1 X.2.1 dX9_placeOf_53 hl (k := 3) rfl (by rw [ex_2]; rfl) (by decide) rfl (fun ls hl => ?_)
  refine lv_goto (tgt := 19) X.1 X.2.1 dX9_placeOf_56 (by decide) ?_
  exact hK19 M x1 x_1 x_2 _ _ _ h hw (lv_sub hl [2, 3, 1, 0] rfl)
def vX9_placeOf_50 (K19 : Sg → Int32 → Int32 → Int32 → Prop) (Q : Sg → Int32 → Prop) (M : Sg) (x1 : Int32) (x3 : Int32) (s0 : Int32) : Prop := (vX9_placeOf_51 K19 Q M x1 x3 (0 : Int32) s0)
set_option maxHeartbeats 4000000 in
set_option maxRecDepth 100000 in
theorem bX9_placeOf_50 {p : Program} {l : Launch} {e : Env} {s : State} {m : MethodId} {args : Array Value} {below : List Frame} {meth : Method} {c : Code} {D : va_G} {κ : Nat → ClassId} {η : Nat → Nat} {σ : (Nat → Nat) × (Nat → Nat)} {A : Nat → Prop} {Q : Sg → Int32 → Prop} {K19 : Sg → Int32 → Int32 → Int32 → Prop} (X : CallFix p m c cX9_placeOf 4 s args wsX9_placeOf RX9) (hr : meth.sig.returnType = (some .int)) (hlk : meth.locks = false) (hK19 : ∀ (M : Sg) (x1 : Int32) (x2 : Int32) (x3 : Int32) (H : Heap) (locs : List Loc) (ls : Array Slot), K19 M x1 x2 x3 → Wd (cN σ) D (Ky κ) A s (mw κ η M) H locs → lv_has ls 4 [(0, .ref (η 0)), (1, .int x1), (2, .int x2), (3, .int x3)] → W p l e rmX9_placeOf s m args below meth c H locs 0 0 (MQ below (Qi D (Ky κ) (mw κ η) A Q) args s 0 0 A) (F0 m 19 ls [])) : ∀ (M : Sg) (x1 : Int32) (x3 : Int32) (s0 : Int32) (H : Heap) (locs : List Loc) (ls : Array Slot), vX9_placeOf_50 K19 Q M x1 x3 s0 → Wd (cN σ) D (Ky κ) A s (mw κ η M) H locs → lv_has ls 4 [(0, .ref (η 0)), (1, .int x1), (3, .int x3)] → W p l e rmX9_placeOf s m args below meth c H locs 0 0 (MQ below (Qi D (Ky κ) (mw κ η) A Q) args s 0 0 A) (F0 m 50 ls [.int s0]) := by
  intro M x1 x3 s0 H locs ls h hw hl
  refine lv_iconst (v := (0 : Int32)) X.1 X.2.1 dX9_placeOf_50 (by decide) ?_
  exact bX9_placeOf_51 X hr hlk hK19 M x1 x3 (0 : Int32) s0 _ _ _ h hw (lv_sub hl [0, 1, 2] rfl)
def vX9_placeOf_19 (Q : Sg → Int32 → Prop) : Nat → Sg → Int32 → Int32 → Int32 → Prop
  | 0, _, _, _, _ => False
  | f19_ + 1, M, x1, x2, x3 => (((gI M 30) ≤ x3 → (Q M x2)) ∧ (¬ (gI M 30) ≤ x3 → (vp_in x3 60 ∧ ((¬ (gA M 38 x3.toNatClampNeg) = 0 → (vX9_placeOf_50 (vX9_placeOf_19 Q f19_) Q M x1 x3 x2)) ∧ ((gA M 38 x3.toNatClampNeg) = 0 → (wX9_isAhead M x3 x1 (fun M_1 r_2 => ((r_2 = 0 → (vX9_placeOf_50 (vX9_placeOf_19 Q f19_) Q M_1 x1 x3 x2)) ∧ (¬ r_2 = 0 → (vX9_placeOf_51 (vX9_placeOf_19 Q f19_) Q M_1 x1 x3 (1 : Int32) x2))))))))))
set_option maxHeartbeats 4000000 in
set_option maxRecDepth 100000 in
theorem bX9_placeOf_19 {p : Program} {l : Launch} {e : Env} {s : State} {m : MethodId} {args : Array Value} {below : List Frame} {meth : Method} {c : Code} {D : va_G} {κ : Nat → ClassId} {η : Nat → Nat} {σ : (Nat → Nat) × (Nat → Nat)} {A : Nat → Prop} {Q : Sg → Int32 → Prop} (X : CallFix p m c cX9_placeOf 4 s args wsX9_placeOf RX9) (hr : meth.sig.returnType = (some .int)) (hlk : meth.locks = false) : ∀ (f_ : Nat) (M : Sg) (x1 : Int32) (x2 : Int32) (x3 : Int32) (H : Heap) (locs : List Loc) (ls : Array Slot), vX9_placeOf_19 Q f_ M x1 x2 x3 → Wd (cN σ) D (Ky κ) A s (mw κ η M) H locs → lv_has ls 4 [(0, .ref (η 0)), (1, .int x1), (2, .int x2), (3, .int x3)] → W p l e rmX9_placeOf s m args below meth c H locs 0 0 (MQ below (Qi D (Ky κ) (mw κ η) A Q) args s 0 0 A) (F0 m 19 ls []) := by
  intro f_
  induction f_ with
  | zero => intro M x1 x2 x3 H locs ls h; exact h.elim
  | succ f_ hK19 =>
    intro M x1 x2 x3 H locs ls h hw hl
    refine lv_iload_n X.1 X.2.1 dX9_placeOf_19 rfl (lv_at hl 3 rfl) ?_
    refine lv_aload_n X.1 X.2.1 dX9_placeOf_20 rfl (lv_at hl 0 rfl) ?_
    refine r_gf X inX9_placeOf_X9 hw 0 rfl rfl 30 (by decide) (X.2.2.2.2 (.fieldLink RX9 256 "TestHallModel" "learners" "I") (by decide +kernel)) rfl rfl dX9_placeOf_21 ?_
    obtain ⟨ht_, hf_⟩ := h
    refine lv_icmp_ge (tgt := 59) X.1 X.2.1 dX9_placeOf_24 (by decide) (fun c_ => ?_) (fun c_ => ?_)
    · have h := ht_ c_
      refine lv_iload_n X.1 X.2.1 dX9_placeOf_59 rfl (lv_at hl 2 rfl) ?_
      exact r_ret X hr hlk hw h dX9_placeOf_60
    · have h := hf_ c_
      refine lv_iload_n X.1 X.2.1 dX9_placeOf_27 rfl (lv_at hl 2 rfl) ?_
      refine lv_aload_n X.1 X.2.1 dX9_placeOf_28 rfl (lv_at hl 0 rfl) ?_
      refine r_gf X inX9_placeOf_X9 hw 0 rfl rfl 38 (by decide) (X.2.2.2.2 (.fieldLink RX9 119 "TestHallModel" "state" "[I") (by decide +kernel)) rfl rfl dX9_placeOf_29 ?_
      refine lv_iload_n X.1 X.2.1 dX9_placeOf_32 rfl (lv_at hl 3 rfl) ?_
      obtain ⟨hi_, h⟩ := h
      refine r_ial X hw 27 0 rfl rfl hi_ dX9_placeOf_33 ?_
      obtain ⟨ht_, hf_⟩ := h
      refine lv_if_ne (tgt := 50) X.1 X.2.1 dX9_placeOf_34 (by decide) (fun c_ => ?_) (fun c_ => ?_)
      · have h := ht_ c_
        exact bX9_placeOf_50 X hr hlk hK19 M x1 x3 x2 _ _ _ h hw (lv_sub hl [0, 1, 3] rfl)
      · have h := hf_ c_
        refine lv_aload_n X.1 X.2.1 dX9_placeOf_37 rfl (lv_at hl 0 rfl) ?_
        refine lv_iload_n X.1 X.2.1 dX9_placeOf_38 rfl (lv_at hl 3 rfl) ?_
        refine lv_iload_n X.1 X.2.1 dX9_placeOf_39 rfl (lv_at hl 1 rfl) ?_
        refine r_Vi (As := [.int x3, .int x1]) (rest := [.int x2]) X cN_ok (kX9_isAhead h) (cwV 2 X.2.2.2.2 gX9_placeOf_X9_isAhead rfl rfl rfl (by decide +kernel) ⟨Nat.le_of_ble_eq_true rfl, Nat.le_of_ble_eq_true rfl⟩) hw 0 8 rfl rfl rfl hl.1 rfl (Nat.le_of_ble_eq_true rfl) dX9_placeOf_40 (fun r_2 M_1 H locs h hw => ?_)
        obtain ⟨ht_, hf_⟩ := h
        refine lv_if_eq (tgt := 50) X.1 X.2.1 dX9_placeOf_43 (by decide) (fun c_ => ?_) (fun c_ => ?_)
        · have h := ht_ c_
          exact bX9_placeOf_50 X hr hlk hK19 M_1 x1 x3 x2 _ _ _ h hw (lv_sub hl [0, 1, 3] rfl)
        · have h := hf_ c_
          refine lv_iconst (v := (1 : Int32)) X.1 X.2.1 dX9_placeOf_46 (by decide) ?_
          refine lv_goto (tgt := 51) X.1 X.2.1 dX9_placeOf_47 (by decide) ?_
          exact bX9_placeOf_51 X hr hlk hK19 M_1 x1 x3 (1 : Int32) x2 _ _ _ h hw (lv_sub hl [0, 1, 3] rfl)
def wX9_placeOf (M : Sg) (a1 : Int32) (Q : Sg → Int32 → Prop) : Prop := (vp_in a1 60 ∧ (((gA M 38 a1.toNatClampNeg) = 0 → (wX9_findRanks M (fun M_1 => (∃ g19_ : Nat, vX9_placeOf_19 Q g19_ M_1 a1 (0 : Int32) (0 : Int32))))) ∧ (¬ (gA M 38 a1.toNatClampNeg) = 0 → (Q M (-1 : Int32)))))
set_option maxHeartbeats 4000000 in
set_option maxRecDepth 100000 in
theorem kX9_placeOf {l : Launch} {D : va_G} {κ : Nat → ClassId} {η : Nat → Nat} {σ : (Nat → Nat) × (Nat → Nat)} {M : Sg} {a1 : Int32} {Q : Sg → Int32 → Prop} (h : wX9_placeOf M a1 Q) : Ki (cN σ) D (Ky κ) (mw κ η) l yX9_placeOf wsX9_placeOf rmX9_placeOf [.ref (η 0), .int a1] M Q := by
  refine ofW_g (Qc := fun A => Qi D (Ky κ) (mw κ η) A Q) (cc := cX9_placeOf) (maxL := 4) (ret := (some .int)) (by decide) rfl (Nat.le_of_ble_eq_true rfl) ?_
  intro p e s m args below meth c A ls X hr hlk hw hl
  have hl : lv_has ls 4 [(0, .ref (η 0)), (1, .int a1)] := hl
  refine lv_aload_n X.1 X.2.1 dX9_placeOf_0 rfl (lv_at hl 0 rfl) ?_
  refine r_gf X inX9_placeOf_X9 hw 0 rfl rfl 38 (by decide) (X.2.2.2.2 (.fieldLink RX9 119 "TestHallModel" "state" "[I") (by decide +kernel)) rfl rfl dX9_placeOf_1 ?_
  refine lv_iload_n X.1 X.2.1 dX9_placeOf_4 rfl (lv_at hl 1 rfl) ?_
  obtain ⟨hi_, h⟩ := h
  refine r_ial X hw 27 0 rfl rfl hi_ dX9_placeOf_5 ?_
  obtain ⟨ht_, hf_⟩ := h
  refine lv_if_eq (tgt := 11) X.1 X.2.1 dX9_placeOf_6 (by decide) (fun c_ => ?_) (fun c_ => ?_)
  · have h := ht_ c_
    refine lv_aload_n X.1 X.2.1 dX9_placeOf_11 rfl (lv_at hl 0 rfl) ?_
    refine r_Vv (As := []) (rest := []) X cN_ok (kX9_findRanks h) (cwV 0 X.2.2.2.2 gX9_placeOf_X9_findRanks rfl rfl rfl (by decide +kernel) ⟨Nat.le_of_ble_eq_true rfl, Nat.le_of_ble_eq_true rfl⟩) hw 0 8 rfl rfl rfl hl.1 rfl (Nat.le_of_ble_eq_true rfl) dX9_placeOf_12 (fun M_1 H locs h hw => ?_)
    refine lv_iconst (v := (0 : Int32)) X.1 X.2.1 dX9_placeOf_15 (by decide) ?_
    refine lv_istore_n (lv' := [(2, .int (0 : Int32)), (0, .ref (η 0)), (1, .int a1)]) X.1 X.2.1 dX9_placeOf_16 rfl hl (by decide) rfl (fun ls hl => ?_)
    refine lv_iconst (v := (0 : Int32)) X.1 X.2.1 dX9_placeOf_17 (by decide) ?_
    refine lv_istore_n (lv' := [(3, .int (0 : Int32)), (2, .int (0 : Int32)), (0, .ref (η 0)), (1, .int a1)]) X.1 X.2.1 dX9_placeOf_18 rfl hl (by decide) rfl (fun ls hl => ?_)
    obtain ⟨f_, h⟩ := h
    exact bX9_placeOf_19 X hr hlk f_ M_1 a1 (0 : Int32) (0 : Int32) _ _ _ h hw (lv_sub hl [2, 3, 1, 0] rfl)
  · have h := hf_ c_
    refine lv_iconst (v := (-1 : Int32)) X.1 X.2.1 dX9_placeOf_9 (by decide) ?_
    exact r_ret X hr hlk hw h dX9_placeOf_10

theorem inX9_look_X9 : ∀ w ∈ wsX90, w ∈ wsX9_look := fun w h => List.mem_cons_of_mem _ (List.mem_append_right _ h)
abbrev rmX9_look : Room := { frames := 4, cells := 0, slots := 0, locals := 92 }
def vX9_look_23 (Q : Sg → Int32 → Prop) (M : Sg) (x1 : Int32) (x2 : Int32) (s0 : Int32) : Prop := (∀ (M_1 : Sg), M_1 = sI M 0 s0 → (((gI M_1 0) ≤ 0 → ((x2 = (0 : Int32) → (vp_in x1 60 ∧ (Q M_1 (gA M_1 38 x1.toNatClampNeg)))) ∧ (x2 = (1 : Int32) → (vp_in x1 60 ∧ (Q M_1 (gA M_1 39 x1.toNatClampNeg)))) ∧ (x2 = (2 : Int32) → (vp_in x1 60 ∧ (Q M_1 (gA M_1 40 x1.toNatClampNeg)))) ∧ (x2 = (3 : Int32) → (wX9_placeOf M_1 x1 (fun M_2 r_3 => (Q M_2 r_3)))) ∧ ((¬ x2 = (0 : Int32) ∧ ¬ x2 = (1 : Int32) ∧ ¬ x2 = (2 : Int32) ∧ ¬ x2 = (3 : Int32)) → (vp_in x1 60 ∧ (Q M_1 (gA M_1 41 x1.toNatClampNeg)))))) ∧ (¬ (gI M_1 0) ≤ 0 → (Q M_1 (0 : Int32)))))
set_option maxHeartbeats 4000000 in
set_option maxRecDepth 100000 in
theorem bX9_look_23 {p : Program} {l : Launch} {e : Env} {s : State} {m : MethodId} {args : Array Value} {below : List Frame} {meth : Method} {c : Code} {D : va_G} {κ : Nat → ClassId} {η : Nat → Nat} {σ : (Nat → Nat) × (Nat → Nat)} {A : Nat → Prop} {Q : Sg → Int32 → Prop} (X : CallFix p m c cX9_look 3 s args wsX9_look RX9) (hr : meth.sig.returnType = (some .int)) (hlk : meth.locks = false) : ∀ (M : Sg) (x1 : Int32) (x2 : Int32) (s0 : Int32) (H : Heap) (locs : List Loc) (ls : Array Slot), vX9_look_23 Q M x1 x2 s0 → Wd (cN σ) D (Ky κ) A s (mw κ η M) H locs → lv_has ls 3 [(0, .ref (η 0)), (1, .int x1), (2, .int x2)] → W p l e rmX9_look s m args below meth c H locs 0 0 (MQ below (Qi D (Ky κ) (mw κ η) A Q) args s 0 0 A) (F0 m 23 ls [.int s0, .ref (η 0)]) := by
  intro M x1 x2 s0 H locs ls h hw hl
  refine r_pf (ty := .int) (w' := mw κ η (sI M 0 s0)) X inX9_look_X9 tyX9_ok nmX9 hw 0 rfl rfl 0 (by decide) (X.2.2.2.2 (.fieldLink RX9 1 "TestHallModel" "thrown" "I") (by decide +kernel)) rfl rfl (by decide +kernel) rfl rfl (Nat.le_of_ble_eq_true rfl) rfl dX9_look_23 (fun H locs hw => ?_)
  obtain ⟨M_1, eM_1⟩ : ∃ y : Sg, y = sI M 0 s0 := ⟨_, rfl⟩
  rw [← eM_1] at hw
  have h := h M_1 eM_1
  refine lv_aload_n X.1 X.2.1 dX9_look_26 rfl (lv_at hl 0 rfl) ?_
  refine r_gf X inX9_look_X9 hw 0 rfl rfl 0 (by decide) (X.2.2.2.2 (.fieldLink RX9 1 "TestHallModel" "thrown" "I") (by decide +kernel)) rfl rfl dX9_look_27 ?_
  obtain ⟨ht_, hf_⟩ := h
  refine lv_if_le (tgt := 35) X.1 X.2.1 dX9_look_30 (by decide) (fun c_ => ?_) (fun c_ => ?_)
  · have h := ht_ c_
    refine lv_iload_n X.1 X.2.1 dX9_look_35 rfl (lv_at hl 2 rfl) ?_
    obtain ⟨hs0_, hs1_, hs2_, hs3_, hd_⟩ := h
    by_cases cs0_ : x2 = (0 : Int32)
    · have h := hs0_ cs0_
      refine lv_tableIn (tgt := 68) (off := (32)) X.1 X.2.1 dX9_look_36 (by rw [cs0_]; decide) (by rw [cs0_]; decide) (by rw [cs0_]; decide) (by decide) ?_
      refine lv_aload_n X.1 X.2.1 dX9_look_68 rfl (lv_at hl 0 rfl) ?_
      refine r_gf X inX9_look_X9 hw 0 rfl rfl 38 (by decide) (X.2.2.2.2 (.fieldLink RX9 119 "TestHallModel" "state" "[I") (by decide +kernel)) rfl rfl dX9_look_69 ?_
      refine lv_iload_n X.1 X.2.1 dX9_look_72 rfl (lv_at hl 1 rfl) ?_
      obtain ⟨hi_, h⟩ := h
      refine r_ial X hw 27 0 rfl rfl hi_ dX9_look_73 ?_
      exact r_ret X hr hlk hw h dX9_look_74
    by_cases cs1_ : x2 = (1 : Int32)
    · have h := hs1_ cs1_
      refine lv_tableIn (tgt := 75) (off := (39)) X.1 X.2.1 dX9_look_36 (by rw [cs1_]; decide) (by rw [cs1_]; decide) (by rw [cs1_]; decide) (by decide) ?_
      refine lv_aload_n X.1 X.2.1 dX9_look_75 rfl (lv_at hl 0 rfl) ?_
      refine r_gf X inX9_look_X9 hw 0 rfl rfl 39 (by decide) (X.2.2.2.2 (.fieldLink RX9 122 "TestHallModel" "slot" "[I") (by decide +kernel)) rfl rfl dX9_look_76 ?_
      refine lv_iload_n X.1 X.2.1 dX9_look_79 rfl (lv_at hl 1 rfl) ?_
      obtain ⟨hi_, h⟩ := h
      refine r_ial X hw 28 0 rfl rfl hi_ dX9_look_80 ?_
      exact r_ret X hr hlk hw h dX9_look_81
    by_cases cs2_ : x2 = (2 : Int32)
    · have h := hs2_ cs2_
      refine lv_tableIn (tgt := 82) (off := (46)) X.1 X.2.1 dX9_look_36 (by rw [cs2_]; decide) (by rw [cs2_]; decide) (by rw [cs2_]; decide) (by decide) ?_
      refine lv_aload_n X.1 X.2.1 dX9_look_82 rfl (lv_at hl 0 rfl) ?_
      refine r_gf X inX9_look_X9 hw 0 rfl rfl 40 (by decide) (X.2.2.2.2 (.fieldLink RX9 125 "TestHallModel" "tries" "[I") (by decide +kernel)) rfl rfl dX9_look_83 ?_
      refine lv_iload_n X.1 X.2.1 dX9_look_86 rfl (lv_at hl 1 rfl) ?_
      obtain ⟨hi_, h⟩ := h
      refine r_ial X hw 29 0 rfl rfl hi_ dX9_look_87 ?_
      exact r_ret X hr hlk hw h dX9_look_88
    by_cases cs3_ : x2 = (3 : Int32)
    · have h := hs3_ cs3_
      refine lv_tableIn (tgt := 89) (off := (53)) X.1 X.2.1 dX9_look_36 (by rw [cs3_]; decide) (by rw [cs3_]; decide) (by rw [cs3_]; decide) (by decide) ?_
      refine lv_aload_n X.1 X.2.1 dX9_look_89 rfl (lv_at hl 0 rfl) ?_
      refine lv_iload_n X.1 X.2.1 dX9_look_90 rfl (lv_at hl 1 rfl) ?_
      refine r_Vi (As := [.int x1]) (rest := []) X cN_ok (kX9_placeOf h) (cwV 1 X.2.2.2.2 gX9_look_X9_placeOf rfl rfl rfl (by decide +kernel) ⟨Nat.le_of_ble_eq_true rfl, Nat.le_of_ble_eq_true rfl⟩) hw 0 8 rfl rfl rfl hl.1 rfl (Nat.le_of_ble_eq_true rfl) dX9_look_91 (fun r_3 M_2 H locs h hw => ?_)
      exact r_ret X hr hlk hw h dX9_look_94
    have h := hd_ ⟨cs0_, cs1_, cs2_, cs3_⟩
    have cn0_ : ¬ (x2).toInt = 0 := fun q => cs0_ (Int32.toInt_inj.mp (q.trans (by decide)))
    have cn1_ : ¬ (x2).toInt = 1 := fun q => cs1_ (Int32.toInt_inj.mp (q.trans (by decide)))
    have cn2_ : ¬ (x2).toInt = 2 := fun q => cs2_ (Int32.toInt_inj.mp (q.trans (by decide)))
    have cn3_ : ¬ (x2).toInt = 3 := fun q => cs3_ (Int32.toInt_inj.mp (q.trans (by decide)))
    refine lv_tableOut (tgt := 95) X.1 X.2.1 dX9_look_36 (by omega) (by decide) ?_
    refine lv_aload_n X.1 X.2.1 dX9_look_95 rfl (lv_at hl 0 rfl) ?_
    refine r_gf X inX9_look_X9 hw 0 rfl rfl 41 (by decide) (X.2.2.2.2 (.fieldLink RX9 128 "TestHallModel" "ups" "[I") (by decide +kernel)) rfl rfl dX9_look_96 ?_
    refine lv_iload_n X.1 X.2.1 dX9_look_99 rfl (lv_at hl 1 rfl) ?_
    obtain ⟨hi_, h⟩ := h
    refine r_ial X hw 30 0 rfl rfl hi_ dX9_look_100 ?_
    exact r_ret X hr hlk hw h dX9_look_101
  · have h := hf_ c_
    refine lv_iconst (v := (0 : Int32)) X.1 X.2.1 dX9_look_33 (by decide) ?_
    exact r_ret X hr hlk hw h dX9_look_34
def vX9_look_22 (Q : Sg → Int32 → Prop) (M : Sg) (x1 : Int32) (x2 : Int32) : Prop := (vX9_look_23 Q M x1 x2 (1 : Int32))
set_option maxHeartbeats 4000000 in
set_option maxRecDepth 100000 in
theorem bX9_look_22 {p : Program} {l : Launch} {e : Env} {s : State} {m : MethodId} {args : Array Value} {below : List Frame} {meth : Method} {c : Code} {D : va_G} {κ : Nat → ClassId} {η : Nat → Nat} {σ : (Nat → Nat) × (Nat → Nat)} {A : Nat → Prop} {Q : Sg → Int32 → Prop} (X : CallFix p m c cX9_look 3 s args wsX9_look RX9) (hr : meth.sig.returnType = (some .int)) (hlk : meth.locks = false) : ∀ (M : Sg) (x1 : Int32) (x2 : Int32) (H : Heap) (locs : List Loc) (ls : Array Slot), vX9_look_22 Q M x1 x2 → Wd (cN σ) D (Ky κ) A s (mw κ η M) H locs → lv_has ls 3 [(0, .ref (η 0)), (1, .int x1), (2, .int x2)] → W p l e rmX9_look s m args below meth c H locs 0 0 (MQ below (Qi D (Ky κ) (mw κ η) A Q) args s 0 0 A) (F0 m 22 ls [.ref (η 0)]) := by
  intro M x1 x2 H locs ls h hw hl
  refine lv_iconst (v := (1 : Int32)) X.1 X.2.1 dX9_look_22 (by decide) ?_
  exact bX9_look_23 X hr hlk M x1 x2 (1 : Int32) _ _ _ h hw (lv_sub hl [0, 1, 2] rfl)
def wX9_look (M : Sg) (a1 : Int32) (a2 : Int32) (Q : Sg → Int32 → Prop) : Prop := (wX9_isLearner M a1 (fun M_1 r_2 => ((r_2 = 0 → (vX9_look_22 Q M_1 a1 a2)) ∧ (¬ r_2 = 0 → ((a2 < 0 → (vX9_look_22 Q M_1 a1 a2)) ∧ (¬ a2 < 0 → (((4 : Int32) < a2 → (vX9_look_22 Q M_1 a1 a2)) ∧ (¬ (4 : Int32) < a2 → (vX9_look_23 Q M_1 a1 a2 (0 : Int32))))))))))
set_option maxHeartbeats 4000000 in
set_option maxRecDepth 100000 in
theorem kX9_look {l : Launch} {D : va_G} {κ : Nat → ClassId} {η : Nat → Nat} {σ : (Nat → Nat) × (Nat → Nat)} {M : Sg} {a1 : Int32} {a2 : Int32} {Q : Sg → Int32 → Prop} (h : wX9_look M a1 a2 Q) : Ki (cN σ) D (Ky κ) (mw κ η) l yX9_look wsX9_look rmX9_look [.ref (η 0), .int a1, .int a2] M Q := by
  refine ofW_g (Qc := fun A => Qi D (Ky κ) (mw κ η) A Q) (cc := cX9_look) (maxL := 3) (ret := (some .int)) (by decide) rfl (Nat.le_of_ble_eq_true rfl) ?_
  intro p e s m args below meth c A ls X hr hlk hw hl
  have hl : lv_has ls 3 [(0, .ref (η 0)), (1, .int a1), (2, .int a2)] := hl
  refine lv_aload_n X.1 X.2.1 dX9_look_0 rfl (lv_at hl 0 rfl) ?_
  refine lv_aload_n X.1 X.2.1 dX9_look_1 rfl (lv_at hl 0 rfl) ?_
  refine lv_iload_n X.1 X.2.1 dX9_look_2 rfl (lv_at hl 1 rfl) ?_
  refine r_Vi (As := [.int a1]) (rest := [.ref (η 0)]) X cN_ok (kX9_isLearner h) (cwV 1 X.2.2.2.2 gX9_look_X9_isLearner rfl rfl rfl (by decide +kernel) ⟨Nat.le_of_ble_eq_true rfl, Nat.le_of_ble_eq_true rfl⟩) hw 0 8 rfl rfl rfl hl.1 rfl (Nat.le_of_ble_eq_true rfl) dX9_look_3 (fun r_2 M_1 H locs h hw => ?_)
  obtain ⟨ht_, hf_⟩ := h
  refine lv_if_eq (tgt := 22) X.1 X.2.1 dX9_look_6 (by decide) (fun c_ => ?_) (fun c_ => ?_)
  · have h := ht_ c_
    exact bX9_look_22 X hr hlk M_1 a1 a2 _ _ _ h hw (lv_sub hl [0, 1, 2] rfl)
  · have h := hf_ c_
    refine lv_iload_n X.1 X.2.1 dX9_look_9 rfl (lv_at hl 2 rfl) ?_
    obtain ⟨ht_, hf_⟩ := h
    refine lv_if_lt (tgt := 22) X.1 X.2.1 dX9_look_10 (by decide) (fun c_ => ?_) (fun c_ => ?_)
    · have h := ht_ c_
      exact bX9_look_22 X hr hlk M_1 a1 a2 _ _ _ h hw (lv_sub hl [0, 1, 2] rfl)
    · have h := hf_ c_
      refine lv_iload_n X.1 X.2.1 dX9_look_13 rfl (lv_at hl 2 rfl) ?_
      refine lv_iconst (v := (4 : Int32)) X.1 X.2.1 dX9_look_14 (by decide) ?_
      obtain ⟨ht_, hf_⟩ := h
      refine lv_icmp_gt (tgt := 22) X.1 X.2.1 dX9_look_15 (by decide) (fun c_ => ?_) (fun c_ => ?_)
      · have h := ht_ c_
        exact bX9_look_22 X hr hlk M_1 a1 a2 _ _ _ h hw (lv_sub hl [0, 1, 2] rfl)
      · have h := hf_ c_
        refine lv_iconst (v := (0 : Int32)) X.1 X.2.1 dX9_look_18 (by decide) ?_
        refine lv_goto (tgt := 23) X.1 X.2.1 dX9_look_19 (by decide) ?_
        exact bX9_look_23 X hr hlk M_1 a1 a2 (0 : Int32) _ _ _ h hw (lv_sub hl [0, 1, 2] rfl)

theorem inX9_at_X9 : ∀ w ∈ wsX90, w ∈ wsX9_at := fun w h => List.mem_cons_of_mem _ (List.mem_append_right _ h)
abbrev rmX9_at : Room := { frames := 1, cells := 0, slots := 0, locals := 25 }
def wX9_at (M : Sg) (a1 : Int32) (a2 : Int32) (a3 : Int32) (Q : Sg → Int32 → Prop) : Prop := (∀ (M_1 : Sg), M_1 = sI M 0 (0 : Int32) → ((a1 < 0 → (Q M_1 (-3 : Int32))) ∧ (¬ a1 < 0 → (((59 : Int32) < a1 → (Q M_1 (-3 : Int32))) ∧ (¬ (59 : Int32) < a1 → ((a2 < 0 → (Q M_1 (-3 : Int32))) ∧ (¬ a2 < 0 → (((5 : Int32) < a2 → (Q M_1 (-3 : Int32))) ∧ (¬ (5 : Int32) < a2 → ((a3 < 0 → (Q M_1 (-3 : Int32))) ∧ (¬ a3 < 0 → ((a3 < (gI M_1 25) → (wX9_hasHour M_1 a3 a1 a2 (fun M_2 r_3 => ((¬ r_3 = 0 → (wX9_bookedAt M_2 ((((48 : Int32) * a1) + ((8 : Int32) * a2)) + a3) (fun M_4 r_5 => (Q M_4 r_5)))) ∧ (r_3 = 0 → (Q M_2 (-2 : Int32))))))) ∧ (¬ a3 < (gI M_1 25) → (Q M_1 (-3 : Int32)))))))))))))))
set_option maxHeartbeats 4000000 in
set_option maxRecDepth 100000 in
theorem kX9_at {l : Launch} {D : va_G} {κ : Nat → ClassId} {η : Nat → Nat} {σ : (Nat → Nat) × (Nat → Nat)} {M : Sg} {a1 : Int32} {a2 : Int32} {a3 : Int32} {Q : Sg → Int32 → Prop} (h : wX9_at M a1 a2 a3 Q) : Ki (cN σ) D (Ky κ) (mw κ η) l yX9_at wsX9_at rmX9_at [.ref (η 0), .int a1, .int a2, .int a3] M Q := by
  refine ofW_g (Qc := fun A => Qi D (Ky κ) (mw κ η) A Q) (cc := cX9_at) (maxL := 4) (ret := (some .int)) (by decide) rfl (Nat.le_of_ble_eq_true rfl) ?_
  intro p e s m args below meth c A ls X hr hlk hw hl
  have hl : lv_has ls 4 [(0, .ref (η 0)), (1, .int a1), (2, .int a2), (3, .int a3)] := hl
  refine lv_aload_n X.1 X.2.1 dX9_at_0 rfl (lv_at hl 0 rfl) ?_
  refine lv_iconst (v := (0 : Int32)) X.1 X.2.1 dX9_at_1 (by decide) ?_
  refine r_pf (ty := .int) (w' := mw κ η (sI M 0 (0 : Int32))) X inX9_at_X9 tyX9_ok nmX9 hw 0 rfl rfl 0 (by decide) (X.2.2.2.2 (.fieldLink RX9 1 "TestHallModel" "thrown" "I") (by decide +kernel)) rfl rfl (by decide +kernel) rfl rfl (Nat.le_of_ble_eq_true rfl) rfl dX9_at_2 (fun H locs hw => ?_)
  obtain ⟨M_1, eM_1⟩ : ∃ y : Sg, y = sI M 0 (0 : Int32) := ⟨_, rfl⟩
  rw [← eM_1] at hw
  have h := h M_1 eM_1
  refine lv_iload_n X.1 X.2.1 dX9_at_5 rfl (lv_at hl 1 rfl) ?_
  obtain ⟨ht_, hf_⟩ := h
  refine lv_if_lt (tgt := 36) X.1 X.2.1 dX9_at_6 (by decide) (fun c_ => ?_) (fun c_ => ?_)
  · have h := ht_ c_
    refine lv_bipush (v := (-3 : Int32)) X.1 X.2.1 dX9_at_36 (by decide) ?_
    exact r_ret X hr hlk hw h dX9_at_38
  · have h := hf_ c_
    refine lv_iload_n X.1 X.2.1 dX9_at_9 rfl (lv_at hl 1 rfl) ?_
    refine lv_bipush (v := (59 : Int32)) X.1 X.2.1 dX9_at_10 (by decide) ?_
    obtain ⟨ht_, hf_⟩ := h
    refine lv_icmp_gt (tgt := 36) X.1 X.2.1 dX9_at_12 (by decide) (fun c_ => ?_) (fun c_ => ?_)
    · have h := ht_ c_
      refine lv_bipush (v := (-3 : Int32)) X.1 X.2.1 dX9_at_36 (by decide) ?_
      exact r_ret X hr hlk hw h dX9_at_38
    · have h := hf_ c_
      refine lv_iload_n X.1 X.2.1 dX9_at_15 rfl (lv_at hl 2 rfl) ?_
      obtain ⟨ht_, hf_⟩ := h
      refine lv_if_lt (tgt := 36) X.1 X.2.1 dX9_at_16 (by decide) (fun c_ => ?_) (fun c_ => ?_)
      · have h := ht_ c_
        refine lv_bipush (v := (-3 : Int32)) X.1 X.2.1 dX9_at_36 (by decide) ?_
        exact r_ret X hr hlk hw h dX9_at_38
      · have h := hf_ c_
        refine lv_iload_n X.1 X.2.1 dX9_at_19 rfl (lv_at hl 2 rfl) ?_
        refine lv_iconst (v := (5 : Int32)) X.1 X.2.1 dX9_at_20 (by decide) ?_
        obtain ⟨ht_, hf_⟩ := h
        refine lv_icmp_gt (tgt := 36) X.1 X.2.1 dX9_at_21 (by decide) (fun c_ => ?_) (fun c_ => ?_)
        · have h := ht_ c_
          refine lv_bipush (v := (-3 : Int32)) X.1 X.2.1 dX9_at_36 (by decide) ?_
          exact r_ret X hr hlk hw h dX9_at_38
        · have h := hf_ c_
          refine lv_iload_n X.1 X.2.1 dX9_at_24 rfl (lv_at hl 3 rfl) ?_
          obtain ⟨ht_, hf_⟩ := h
          refine lv_if_lt (tgt := 36) X.1 X.2.1 dX9_at_25 (by decide) (fun c_ => ?_) (fun c_ => ?_)
          · have h := ht_ c_
            refine lv_bipush (v := (-3 : Int32)) X.1 X.2.1 dX9_at_36 (by decide) ?_
            exact r_ret X hr hlk hw h dX9_at_38
          · have h := hf_ c_
            refine lv_iload_n X.1 X.2.1 dX9_at_28 rfl (lv_at hl 3 rfl) ?_
            refine lv_aload_n X.1 X.2.1 dX9_at_29 rfl (lv_at hl 0 rfl) ?_
            refine r_gf X inX9_at_X9 hw 0 rfl rfl 25 (by decide) (X.2.2.2.2 (.fieldLink RX9 249 "TestHallModel" "examiners" "I") (by decide +kernel)) rfl rfl dX9_at_30 ?_
            obtain ⟨ht_, hf_⟩ := h
            refine lv_icmp_lt (tgt := 39) X.1 X.2.1 dX9_at_33 (by decide) (fun c_ => ?_) (fun c_ => ?_)
            · have h := ht_ c_
              refine lv_aload_n X.1 X.2.1 dX9_at_39 rfl (lv_at hl 0 rfl) ?_
              refine lv_iload_n X.1 X.2.1 dX9_at_40 rfl (lv_at hl 3 rfl) ?_
              refine lv_iload_n X.1 X.2.1 dX9_at_41 rfl (lv_at hl 1 rfl) ?_
              refine lv_iload_n X.1 X.2.1 dX9_at_42 rfl (lv_at hl 2 rfl) ?_
              refine r_Vi (As := [.int a3, .int a1, .int a2]) (rest := []) X cN_ok (kX9_hasHour h) (cwV 3 X.2.2.2.2 gX9_at_X9_hasHour rfl rfl rfl (by decide +kernel) ⟨Nat.le_of_ble_eq_true rfl, Nat.le_of_ble_eq_true rfl⟩) hw 0 8 rfl rfl rfl hl.1 rfl (Nat.le_of_ble_eq_true rfl) dX9_at_43 (fun r_3 M_2 H locs h hw => ?_)
              obtain ⟨ht_, hf_⟩ := h
              refine lv_if_ne (tgt := 54) X.1 X.2.1 dX9_at_46 (by decide) (fun c_ => ?_) (fun c_ => ?_)
              · have h := ht_ c_
                refine lv_aload_n X.1 X.2.1 dX9_at_54 rfl (lv_at hl 0 rfl) ?_
                refine lv_bipush (v := (48 : Int32)) X.1 X.2.1 dX9_at_55 (by decide) ?_
                refine lv_iload_n X.1 X.2.1 dX9_at_57 rfl (lv_at hl 1 rfl) ?_
                refine lv_imul X.1 X.2.1 dX9_at_58 ?_
                refine lv_bipush (v := (8 : Int32)) X.1 X.2.1 dX9_at_59 (by decide) ?_
                refine lv_iload_n X.1 X.2.1 dX9_at_61 rfl (lv_at hl 2 rfl) ?_
                refine lv_imul X.1 X.2.1 dX9_at_62 ?_
                refine lv_iadd X.1 X.2.1 dX9_at_63 ?_
                refine lv_iload_n X.1 X.2.1 dX9_at_64 rfl (lv_at hl 3 rfl) ?_
                refine lv_iadd X.1 X.2.1 dX9_at_65 ?_
                refine r_Vi (As := [.int ((((48 : Int32) * a1) + ((8 : Int32) * a2)) + a3)]) (rest := []) X cN_ok (kX9_bookedAt h) (cwV 1 X.2.2.2.2 gX9_at_X9_bookedAt rfl rfl rfl (by decide +kernel) ⟨Nat.le_of_ble_eq_true rfl, Nat.le_of_ble_eq_true rfl⟩) hw 0 8 rfl rfl rfl hl.1 rfl (Nat.le_of_ble_eq_true rfl) dX9_at_66 (fun r_5 M_4 H locs h hw => ?_)
                exact r_ret X hr hlk hw h dX9_at_69
              · have h := hf_ c_
                refine lv_bipush (v := (-2 : Int32)) X.1 X.2.1 dX9_at_49 (by decide) ?_
                refine lv_goto (tgt := 69) X.1 X.2.1 dX9_at_51 (by decide) ?_
                exact r_ret X hr hlk hw h dX9_at_69
            · have h := hf_ c_
              refine lv_bipush (v := (-3 : Int32)) X.1 X.2.1 dX9_at_36 (by decide) ?_
              exact r_ret X hr hlk hw h dX9_at_38

theorem inX9_streetsAt_X9 : ∀ w ∈ wsX90, w ∈ wsX9_streetsAt := fun w h => List.mem_cons_of_mem _ (List.mem_append_right _ h)
abbrev rmX9_streetsAt : Room := { frames := 0, cells := 0, slots := 0, locals := 0 }
def vX9_streetsAt_38 (K4 : Sg → Int32 → Int32 → Int32 → Prop) (Q : Sg → Int32 → Prop) (M : Sg) (x1 : Int32) (x3 : Int32) (s0 : Int32) (s1 : Int32) : Prop := (∀ (x_1 : Int32), x_1 = (s1 + s0) → (∀ (x_2 : Int32), x_2 = x3 + (1 : Int32) → (K4 M x1 x_1 x_2)))
set_option maxHeartbeats 4000000 in
set_option maxRecDepth 100000 in
theorem bX9_streetsAt_38 {p : Program} {l : Launch} {e : Env} {s : State} {m : MethodId} {args : Array Value} {below : List Frame} {meth : Method} {c : Code} {D : va_G} {κ : Nat → ClassId} {η : Nat → Nat} {σ : (Nat → Nat) × (Nat → Nat)} {A : Nat → Prop} {Q : Sg → Int32 → Prop} {K4 : Sg → Int32 → Int32 → Int32 → Prop} (X : CallFix p m c cX9_streetsAt 4 s args wsX9_streetsAt RX9) (hr : meth.sig.returnType = (some .int)) (hlk : meth.locks = false) (hK4 : ∀ (M : Sg) (x1 : Int32) (x2 : Int32) (x3 : Int32) (H : Heap) (locs : List Loc) (ls : Array Slot), K4 M x1 x2 x3 → Wd (cN σ) D (Ky κ) A s (mw κ η M) H locs → lv_has ls 4 [(0, .ref (η 0)), (1, .int x1), (2, .int x2), (3, .int x3)] → W p l e rmX9_streetsAt s m args below meth c H locs 0 0 (MQ below (Qi D (Ky κ) (mw κ η) A Q) args s 0 0 A) (F0 m 4 ls [])) : ∀ (M : Sg) (x1 : Int32) (x3 : Int32) (s0 : Int32) (s1 : Int32) (H : Heap) (locs : List Loc) (ls : Array Slot), vX9_streetsAt_38 K4 Q M x1 x3 s0 s1 → Wd (cN σ) D (Ky κ) A s (mw κ η M) H locs → lv_has ls 4 [(0, .ref (η 0)), (1, .int x1), (3, .int x3)] → W p l e rmX9_streetsAt s m args below meth c H locs 0 0 (MQ below (Qi D (Ky κ) (mw κ η) A Q) args s 0 0 A) (F0 m 38 ls [.int s0, .int s1]) := by
  intro M x1 x3 s0 s1 H locs ls h hw hl
  refine lv_iadd X.1 X.2.1 dX9_streetsAt_38 ?_
  refine lv_topi (fun x_1 ex_1 => ?_)
  have h := h x_1 ex_1
  refine lv_istore_n (lv' := [(2, .int x_1), (0, .ref (η 0)), (1, .int x1), (3, .int x3)]) X.1 X.2.1 dX9_streetsAt_39 rfl hl (by decide) rfl (fun ls hl => ?_)
  obtain ⟨x_2, ex_2⟩ : ∃ y : Int32, y = x3 + (1 : Int32) := ⟨_, rfl⟩
  have h := h x_2 ex_2
  refine lv_iinc (v := x_2) (lv' := [(3, .int x_2), (2, .int x_1), (0, .ref (η 0)), (1, .int x1)]) X.1 X.2.1 dX9_streetsAt_40 hl (k := 3) rfl (by rw [ex_2]; rfl) (by decide) rfl (fun ls hl => ?_)
  refine lv_goto (tgt := 4) X.1 X.2.1 dX9_streetsAt_43 (by decide) ?_
  exact hK4 M x1 x_1 x_2 _ _ _ h hw (lv_sub hl [2, 3, 1, 0] rfl)
def vX9_streetsAt_33 (K4 : Sg → Int32 → Int32 → Int32 → Prop) (Q : Sg → Int32 → Prop) (M : Sg) (x1 : Int32) (x3 : Int32) (s0 : Int32) : Prop := (vX9_streetsAt_38 K4 Q M x1 x3 (1 : Int32) s0)
set_option maxHeartbeats 4000000 in
set_option maxRecDepth 100000 in
theorem bX9_streetsAt_33 {p : Program} {l : Launch} {e : Env} {s : State} {m : MethodId} {args : Array Value} {below : List Frame} {meth : Method} {c : Code} {D : va_G} {κ : Nat → ClassId} {η : Nat → Nat} {σ : (Nat → Nat) × (Nat → Nat)} {A : Nat → Prop} {Q : Sg → Int32 → Prop} {K4 : Sg → Int32 → Int32 → Int32 → Prop} (X : CallFix p m c cX9_streetsAt 4 s args wsX9_streetsAt RX9) (hr : meth.sig.returnType = (some .int)) (hlk : meth.locks = false) (hK4 : ∀ (M : Sg) (x1 : Int32) (x2 : Int32) (x3 : Int32) (H : Heap) (locs : List Loc) (ls : Array Slot), K4 M x1 x2 x3 → Wd (cN σ) D (Ky κ) A s (mw κ η M) H locs → lv_has ls 4 [(0, .ref (η 0)), (1, .int x1), (2, .int x2), (3, .int x3)] → W p l e rmX9_streetsAt s m args below meth c H locs 0 0 (MQ below (Qi D (Ky κ) (mw κ η) A Q) args s 0 0 A) (F0 m 4 ls [])) : ∀ (M : Sg) (x1 : Int32) (x3 : Int32) (s0 : Int32) (H : Heap) (locs : List Loc) (ls : Array Slot), vX9_streetsAt_33 K4 Q M x1 x3 s0 → Wd (cN σ) D (Ky κ) A s (mw κ η M) H locs → lv_has ls 4 [(0, .ref (η 0)), (1, .int x1), (3, .int x3)] → W p l e rmX9_streetsAt s m args below meth c H locs 0 0 (MQ below (Qi D (Ky κ) (mw κ η) A Q) args s 0 0 A) (F0 m 33 ls [.int s0]) := by
  intro M x1 x3 s0 H locs ls h hw hl
  refine lv_iconst (v := (1 : Int32)) X.1 X.2.1 dX9_streetsAt_33 (by decide) ?_
  refine lv_goto (tgt := 38) X.1 X.2.1 dX9_streetsAt_34 (by decide) ?_
  exact bX9_streetsAt_38 X hr hlk hK4 M x1 x3 (1 : Int32) s0 _ _ _ h hw (lv_sub hl [0, 1, 2] rfl)
def vX9_streetsAt_4 (Q : Sg → Int32 → Prop) : Nat → Sg → Int32 → Int32 → Int32 → Prop
  | 0, _, _, _, _ => False
  | f4_ + 1, M, x1, x2, x3 => (((gI M 45) ≤ x3 → (Q M x2)) ∧ (¬ (gI M 45) ≤ x3 → (vp_in x3 24 ∧ (((gA M 46 x3.toNatClampNeg) = x1 → (vX9_streetsAt_33 (vX9_streetsAt_4 Q f4_) Q M x1 x3 x2)) ∧ (¬ (gA M 46 x3.toNatClampNeg) = x1 → (vp_in x3 24 ∧ ((¬ (gA M 47 x3.toNatClampNeg) = x1 → (vX9_streetsAt_38 (vX9_streetsAt_4 Q f4_) Q M x1 x3 (0 : Int32) x2)) ∧ ((gA M 47 x3.toNatClampNeg) = x1 → (vX9_streetsAt_33 (vX9_streetsAt_4 Q f4_) Q M x1 x3 x2)))))))))
set_option maxHeartbeats 4000000 in
set_option maxRecDepth 100000 in
theorem bX9_streetsAt_4 {p : Program} {l : Launch} {e : Env} {s : State} {m : MethodId} {args : Array Value} {below : List Frame} {meth : Method} {c : Code} {D : va_G} {κ : Nat → ClassId} {η : Nat → Nat} {σ : (Nat → Nat) × (Nat → Nat)} {A : Nat → Prop} {Q : Sg → Int32 → Prop} (X : CallFix p m c cX9_streetsAt 4 s args wsX9_streetsAt RX9) (hr : meth.sig.returnType = (some .int)) (hlk : meth.locks = false) : ∀ (f_ : Nat) (M : Sg) (x1 : Int32) (x2 : Int32) (x3 : Int32) (H : Heap) (locs : List Loc) (ls : Array Slot), vX9_streetsAt_4 Q f_ M x1 x2 x3 → Wd (cN σ) D (Ky κ) A s (mw κ η M) H locs → lv_has ls 4 [(0, .ref (η 0)), (1, .int x1), (2, .int x2), (3, .int x3)] → W p l e rmX9_streetsAt s m args below meth c H locs 0 0 (MQ below (Qi D (Ky κ) (mw κ η) A Q) args s 0 0 A) (F0 m 4 ls []) := by
  intro f_
  induction f_ with
  | zero => intro M x1 x2 x3 H locs ls h; exact h.elim
  | succ f_ hK4 =>
    intro M x1 x2 x3 H locs ls h hw hl
    refine lv_iload_n X.1 X.2.1 dX9_streetsAt_4 rfl (lv_at hl 3 rfl) ?_
    refine lv_aload_n X.1 X.2.1 dX9_streetsAt_5 rfl (lv_at hl 0 rfl) ?_
    refine r_gf X inX9_streetsAt_X9 hw 0 rfl rfl 45 (by decide) (X.2.2.2.2 (.fieldLink RX9 311 "TestHallModel" "streets" "I") (by decide +kernel)) rfl rfl dX9_streetsAt_6 ?_
    obtain ⟨ht_, hf_⟩ := h
    refine lv_icmp_ge (tgt := 46) X.1 X.2.1 dX9_streetsAt_9 (by decide) (fun c_ => ?_) (fun c_ => ?_)
    · have h := ht_ c_
      refine lv_iload_n X.1 X.2.1 dX9_streetsAt_46 rfl (lv_at hl 2 rfl) ?_
      exact r_ret X hr hlk hw h dX9_streetsAt_47
    · have h := hf_ c_
      refine lv_iload_n X.1 X.2.1 dX9_streetsAt_12 rfl (lv_at hl 2 rfl) ?_
      refine lv_aload_n X.1 X.2.1 dX9_streetsAt_13 rfl (lv_at hl 0 rfl) ?_
      refine r_gf X inX9_streetsAt_X9 hw 0 rfl rfl 46 (by decide) (X.2.2.2.2 (.fieldLink RX9 137 "TestHallModel" "endA" "[I") (by decide +kernel)) rfl rfl dX9_streetsAt_14 ?_
      refine lv_iload_n X.1 X.2.1 dX9_streetsAt_17 rfl (lv_at hl 3 rfl) ?_
      obtain ⟨hi_, h⟩ := h
      refine r_ial X hw 33 0 rfl rfl hi_ dX9_streetsAt_18 ?_
      refine lv_iload_n X.1 X.2.1 dX9_streetsAt_19 rfl (lv_at hl 1 rfl) ?_
      obtain ⟨ht_, hf_⟩ := h
      refine lv_icmp_eq (tgt := 33) X.1 X.2.1 dX9_streetsAt_20 (by decide) (fun c_ => ?_) (fun c_ => ?_)
      · have h := ht_ c_
        exact bX9_streetsAt_33 X hr hlk hK4 M x1 x3 x2 _ _ _ h hw (lv_sub hl [0, 1, 3] rfl)
      · have h := hf_ c_
        refine lv_aload_n X.1 X.2.1 dX9_streetsAt_23 rfl (lv_at hl 0 rfl) ?_
        refine r_gf X inX9_streetsAt_X9 hw 0 rfl rfl 47 (by decide) (X.2.2.2.2 (.fieldLink RX9 140 "TestHallModel" "endB" "[I") (by decide +kernel)) rfl rfl dX9_streetsAt_24 ?_
        refine lv_iload_n X.1 X.2.1 dX9_streetsAt_27 rfl (lv_at hl 3 rfl) ?_
        obtain ⟨hi_, h⟩ := h
        refine r_ial X hw 34 0 rfl rfl hi_ dX9_streetsAt_28 ?_
        refine lv_iload_n X.1 X.2.1 dX9_streetsAt_29 rfl (lv_at hl 1 rfl) ?_
        obtain ⟨ht_, hf_⟩ := h
        refine lv_icmp_ne (tgt := 37) X.1 X.2.1 dX9_streetsAt_30 (by decide) (fun c_ => ?_) (fun c_ => ?_)
        · have h := ht_ c_
          refine lv_iconst (v := (0 : Int32)) X.1 X.2.1 dX9_streetsAt_37 (by decide) ?_
          exact bX9_streetsAt_38 X hr hlk hK4 M x1 x3 (0 : Int32) x2 _ _ _ h hw (lv_sub hl [0, 1, 3] rfl)
        · have h := hf_ c_
          exact bX9_streetsAt_33 X hr hlk hK4 M x1 x3 x2 _ _ _ h hw (lv_sub hl [0, 1, 3] rfl)
def wX9_streetsAt (M : Sg) (a1 : Int32) (Q : Sg → Int32 → Prop) : Prop := (∃ g4_ : Nat, vX9_streetsAt_4 Q g4_ M a1 (0 : Int32) (0 : Int32))
set_option maxHeartbeats 4000000 in
set_option maxRecDepth 100000 in
theorem kX9_streetsAt {l : Launch} {D : va_G} {κ : Nat → ClassId} {η : Nat → Nat} {σ : (Nat → Nat) × (Nat → Nat)} {M : Sg} {a1 : Int32} {Q : Sg → Int32 → Prop} (h : wX9_streetsAt M a1 Q) : Ki (cN σ) D (Ky κ) (mw κ η) l yX9_streetsAt wsX9_streetsAt rmX9_streetsAt [.ref (η 0), .int a1] M Q := by
  refine ofW_g (Qc := fun A => Qi D (Ky κ) (mw κ η) A Q) (cc := cX9_streetsAt) (maxL := 4) (ret := (some .int)) (by decide) rfl (Nat.le_of_ble_eq_true rfl) ?_
  intro p e s m args below meth c A ls X hr hlk hw hl
  have hl : lv_has ls 4 [(0, .ref (η 0)), (1, .int a1)] := hl
  refine lv_iconst (v := (0 : Int32)) X.1 X.2.1 dX9_streetsAt_0 (by decide) ?_
  refine lv_istore_n (lv' := [(2, .int (0 : Int32)), (0, .ref (η 0)), (1, .int a1)]) X.1 X.2.1 dX9_streetsAt_1 rfl hl (by decide) rfl (fun ls hl => ?_)
  refine lv_iconst (v := (0 : Int32)) X.1 X.2.1 dX9_streetsAt_2 (by decide) ?_
  refine lv_istore_n (lv' := [(3, .int (0 : Int32)), (2, .int (0 : Int32)), (0, .ref (η 0)), (1, .int a1)]) X.1 X.2.1 dX9_streetsAt_3 rfl hl (by decide) rfl (fun ls hl => ?_)
  obtain ⟨f_, h⟩ := h
  exact bX9_streetsAt_4 X hr hlk f_ M a1 (0 : Int32) (0 : Int32) _ _ _ h hw (lv_sub hl [2, 3, 1, 0] rfl)

theorem inX9_street_X9 : ∀ w ∈ wsX90, w ∈ wsX9_street := fun w h => List.mem_cons_of_mem _ (List.mem_append_right _ h)
abbrev rmX9_street : Room := { frames := 1, cells := 0, slots := 0, locals := 23 }
def wX9_street (M : Sg) (a1 : Int32) (a2 : Int32) (a3 : Int32) (a4 : Int32) (Q : Sg → Int32 → Prop) : Prop := (∀ (M_1 : Sg), M_1 = sI M 0 (0 : Int32) → ((a1 < 0 → (Q M_1 (-1 : Int32))) ∧ (¬ a1 < 0 → (((11 : Int32) < a1 → (Q M_1 (-1 : Int32))) ∧ (¬ (11 : Int32) < a1 → ((a2 < 0 → (Q M_1 (-1 : Int32))) ∧ (¬ a2 < 0 → (((11 : Int32) < a2 → (Q M_1 (-1 : Int32))) ∧ (¬ (11 : Int32) < a2 → ((a1 = a2 → (Q M_1 (-1 : Int32))) ∧ (¬ a1 = a2 → ((a3 < (1 : Int32) → (Q M_1 (-1 : Int32))) ∧ (¬ a3 < (1 : Int32) → (((30 : Int32) < a3 → (Q M_1 (-1 : Int32))) ∧ (¬ (30 : Int32) < a3 → ((a4 < 0 → (Q M_1 (-1 : Int32))) ∧ (¬ a4 < 0 → (((255 : Int32) < a4 → (Q M_1 (-1 : Int32))) ∧ (¬ (255 : Int32) < a4 → (((gI M_1 45) = (24 : Int32) → (Q M_1 (-1 : Int32))) ∧ (¬ (gI M_1 45) = (24 : Int32) → (wX9_streetsAt M_1 a1 (fun M_2 r_3 => ((r_3 = (4 : Int32) → (Q M_2 (-1 : Int32))) ∧ (¬ r_3 = (4 : Int32) → (wX9_streetsAt M_2 a2 (fun M_4 r_5 => ((¬ r_5 = (4 : Int32) → (vp_in (gI M_4 45) 24 ∧ (∀ (M_6 : Sg), M_6 = sA M_4 46 (gI M_4 45).toNatClampNeg a1 → (vp_in (gI M_6 45) 24 ∧ (∀ (M_7 : Sg), M_7 = sA M_6 47 (gI M_6 45).toNatClampNeg a2 → (vp_in (gI M_7 45) 24 ∧ (∀ (M_8 : Sg), M_8 = sA M_7 48 (gI M_7 45).toNatClampNeg a3 → (vp_in (gI M_8 45) 24 ∧ (∀ (M_9 : Sg), M_9 = sA M_8 49 (gI M_8 45).toNatClampNeg a4 → (∀ (M_10 : Sg), M_10 = sI M_9 45 ((gI M_9 45) + (1 : Int32)) → (Q M_10 ((gI M_10 45) - (1 : Int32))))))))))))) ∧ (r_5 = (4 : Int32) → (Q M_4 (-1 : Int32)))))))))))))))))))))))))))))))
set_option maxHeartbeats 4000000 in
set_option maxRecDepth 100000 in
theorem kX9_street {l : Launch} {D : va_G} {κ : Nat → ClassId} {η : Nat → Nat} {σ : (Nat → Nat) × (Nat → Nat)} {M : Sg} {a1 : Int32} {a2 : Int32} {a3 : Int32} {a4 : Int32} {Q : Sg → Int32 → Prop} (h : wX9_street M a1 a2 a3 a4 Q) : Ki (cN σ) D (Ky κ) (mw κ η) l yX9_street wsX9_street rmX9_street [.ref (η 0), .int a1, .int a2, .int a3, .int a4] M Q := by
  refine ofW_g (Qc := fun A => Qi D (Ky κ) (mw κ η) A Q) (cc := cX9_street) (maxL := 5) (ret := (some .int)) (by decide) rfl (Nat.le_of_ble_eq_true rfl) ?_
  intro p e s m args below meth c A ls X hr hlk hw hl
  have hl : lv_has ls 5 [(0, .ref (η 0)), (1, .int a1), (2, .int a2), (3, .int a3), (4, .int a4)] := hl
  refine lv_aload_n X.1 X.2.1 dX9_street_0 rfl (lv_at hl 0 rfl) ?_
  refine lv_iconst (v := (0 : Int32)) X.1 X.2.1 dX9_street_1 (by decide) ?_
  refine r_pf (ty := .int) (w' := mw κ η (sI M 0 (0 : Int32))) X inX9_street_X9 tyX9_ok nmX9 hw 0 rfl rfl 0 (by decide) (X.2.2.2.2 (.fieldLink RX9 1 "TestHallModel" "thrown" "I") (by decide +kernel)) rfl rfl (by decide +kernel) rfl rfl (Nat.le_of_ble_eq_true rfl) rfl dX9_street_2 (fun H locs hw => ?_)
  obtain ⟨M_1, eM_1⟩ : ∃ y : Sg, y = sI M 0 (0 : Int32) := ⟨_, rfl⟩
  rw [← eM_1] at hw
  have h := h M_1 eM_1
  refine lv_iload_n X.1 X.2.1 dX9_street_5 rfl (lv_at hl 1 rfl) ?_
  obtain ⟨ht_, hf_⟩ := h
  refine lv_if_lt (tgt := 81) X.1 X.2.1 dX9_street_6 (by decide) (fun c_ => ?_) (fun c_ => ?_)
  · have h := ht_ c_
    refine lv_iconst (v := (-1 : Int32)) X.1 X.2.1 dX9_street_81 (by decide) ?_
    exact r_ret X hr hlk hw h dX9_street_82
  · have h := hf_ c_
    refine lv_iload_n X.1 X.2.1 dX9_street_9 rfl (lv_at hl 1 rfl) ?_
    refine lv_bipush (v := (11 : Int32)) X.1 X.2.1 dX9_street_10 (by decide) ?_
    obtain ⟨ht_, hf_⟩ := h
    refine lv_icmp_gt (tgt := 81) X.1 X.2.1 dX9_street_12 (by decide) (fun c_ => ?_) (fun c_ => ?_)
    · have h := ht_ c_
      refine lv_iconst (v := (-1 : Int32)) X.1 X.2.1 dX9_street_81 (by decide) ?_
      exact r_ret X hr hlk hw h dX9_street_82
    · have h := hf_ c_
      refine lv_iload_n X.1 X.2.1 dX9_street_15 rfl (lv_at hl 2 rfl) ?_
      obtain ⟨ht_, hf_⟩ := h
      refine lv_if_lt (tgt := 81) X.1 X.2.1 dX9_street_16 (by decide) (fun c_ => ?_) (fun c_ => ?_)
      · have h := ht_ c_
        refine lv_iconst (v := (-1 : Int32)) X.1 X.2.1 dX9_street_81 (by decide) ?_
        exact r_ret X hr hlk hw h dX9_street_82
      · have h := hf_ c_
        refine lv_iload_n X.1 X.2.1 dX9_street_19 rfl (lv_at hl 2 rfl) ?_
        refine lv_bipush (v := (11 : Int32)) X.1 X.2.1 dX9_street_20 (by decide) ?_
        obtain ⟨ht_, hf_⟩ := h
        refine lv_icmp_gt (tgt := 81) X.1 X.2.1 dX9_street_22 (by decide) (fun c_ => ?_) (fun c_ => ?_)
        · have h := ht_ c_
          refine lv_iconst (v := (-1 : Int32)) X.1 X.2.1 dX9_street_81 (by decide) ?_
          exact r_ret X hr hlk hw h dX9_street_82
        · have h := hf_ c_
          refine lv_iload_n X.1 X.2.1 dX9_street_25 rfl (lv_at hl 1 rfl) ?_
          refine lv_iload_n X.1 X.2.1 dX9_street_26 rfl (lv_at hl 2 rfl) ?_
          obtain ⟨ht_, hf_⟩ := h
          refine lv_icmp_eq (tgt := 81) X.1 X.2.1 dX9_street_27 (by decide) (fun c_ => ?_) (fun c_ => ?_)
          · have h := ht_ c_
            refine lv_iconst (v := (-1 : Int32)) X.1 X.2.1 dX9_street_81 (by decide) ?_
            exact r_ret X hr hlk hw h dX9_street_82
          · have h := hf_ c_
            refine lv_iload_n X.1 X.2.1 dX9_street_30 rfl (lv_at hl 3 rfl) ?_
            refine lv_iconst (v := (1 : Int32)) X.1 X.2.1 dX9_street_31 (by decide) ?_
            obtain ⟨ht_, hf_⟩ := h
            refine lv_icmp_lt (tgt := 81) X.1 X.2.1 dX9_street_32 (by decide) (fun c_ => ?_) (fun c_ => ?_)
            · have h := ht_ c_
              refine lv_iconst (v := (-1 : Int32)) X.1 X.2.1 dX9_street_81 (by decide) ?_
              exact r_ret X hr hlk hw h dX9_street_82
            · have h := hf_ c_
              refine lv_iload_n X.1 X.2.1 dX9_street_35 rfl (lv_at hl 3 rfl) ?_
              refine lv_bipush (v := (30 : Int32)) X.1 X.2.1 dX9_street_36 (by decide) ?_
              obtain ⟨ht_, hf_⟩ := h
              refine lv_icmp_gt (tgt := 81) X.1 X.2.1 dX9_street_38 (by decide) (fun c_ => ?_) (fun c_ => ?_)
              · have h := ht_ c_
                refine lv_iconst (v := (-1 : Int32)) X.1 X.2.1 dX9_street_81 (by decide) ?_
                exact r_ret X hr hlk hw h dX9_street_82
              · have h := hf_ c_
                refine lv_iload X.1 X.2.1 dX9_street_41 (lv_at hl 4 rfl) ?_
                obtain ⟨ht_, hf_⟩ := h
                refine lv_if_lt (tgt := 81) X.1 X.2.1 dX9_street_43 (by decide) (fun c_ => ?_) (fun c_ => ?_)
                · have h := ht_ c_
                  refine lv_iconst (v := (-1 : Int32)) X.1 X.2.1 dX9_street_81 (by decide) ?_
                  exact r_ret X hr hlk hw h dX9_street_82
                · have h := hf_ c_
                  refine lv_iload X.1 X.2.1 dX9_street_46 (lv_at hl 4 rfl) ?_
                  refine lv_sipush (v := (255 : Int32)) X.1 X.2.1 dX9_street_48 (by decide) ?_
                  obtain ⟨ht_, hf_⟩ := h
                  refine lv_icmp_gt (tgt := 81) X.1 X.2.1 dX9_street_51 (by decide) (fun c_ => ?_) (fun c_ => ?_)
                  · have h := ht_ c_
                    refine lv_iconst (v := (-1 : Int32)) X.1 X.2.1 dX9_street_81 (by decide) ?_
                    exact r_ret X hr hlk hw h dX9_street_82
                  · have h := hf_ c_
                    refine lv_aload_n X.1 X.2.1 dX9_street_54 rfl (lv_at hl 0 rfl) ?_
                    refine r_gf X inX9_street_X9 hw 0 rfl rfl 45 (by decide) (X.2.2.2.2 (.fieldLink RX9 311 "TestHallModel" "streets" "I") (by decide +kernel)) rfl rfl dX9_street_55 ?_
                    refine lv_bipush (v := (24 : Int32)) X.1 X.2.1 dX9_street_58 (by decide) ?_
                    obtain ⟨ht_, hf_⟩ := h
                    refine lv_icmp_eq (tgt := 81) X.1 X.2.1 dX9_street_60 (by decide) (fun c_ => ?_) (fun c_ => ?_)
                    · have h := ht_ c_
                      refine lv_iconst (v := (-1 : Int32)) X.1 X.2.1 dX9_street_81 (by decide) ?_
                      exact r_ret X hr hlk hw h dX9_street_82
                    · have h := hf_ c_
                      refine lv_aload_n X.1 X.2.1 dX9_street_63 rfl (lv_at hl 0 rfl) ?_
                      refine lv_iload_n X.1 X.2.1 dX9_street_64 rfl (lv_at hl 1 rfl) ?_
                      refine r_Vi (As := [.int a1]) (rest := []) X cN_ok (kX9_streetsAt h) (cwV 1 X.2.2.2.2 gX9_street_X9_streetsAt rfl rfl rfl (by decide +kernel) ⟨Nat.le_of_ble_eq_true rfl, Nat.le_of_ble_eq_true rfl⟩) hw 0 8 rfl rfl rfl hl.1 rfl (Nat.le_of_ble_eq_true rfl) dX9_street_65 (fun r_3 M_2 H locs h hw => ?_)
                      refine lv_iconst (v := (4 : Int32)) X.1 X.2.1 dX9_street_68 (by decide) ?_
                      obtain ⟨ht_, hf_⟩ := h
                      refine lv_icmp_eq (tgt := 81) X.1 X.2.1 dX9_street_69 (by decide) (fun c_ => ?_) (fun c_ => ?_)
                      · have h := ht_ c_
                        refine lv_iconst (v := (-1 : Int32)) X.1 X.2.1 dX9_street_81 (by decide) ?_
                        exact r_ret X hr hlk hw h dX9_street_82
                      · have h := hf_ c_
                        refine lv_aload_n X.1 X.2.1 dX9_street_72 rfl (lv_at hl 0 rfl) ?_
                        refine lv_iload_n X.1 X.2.1 dX9_street_73 rfl (lv_at hl 2 rfl) ?_
                        refine r_Vi (As := [.int a2]) (rest := []) X cN_ok (kX9_streetsAt h) (cwV 1 X.2.2.2.2 gX9_street_X9_streetsAt rfl rfl rfl (by decide +kernel) ⟨Nat.le_of_ble_eq_true rfl, Nat.le_of_ble_eq_true rfl⟩) hw 0 8 rfl rfl rfl hl.1 rfl (Nat.le_of_ble_eq_true rfl) dX9_street_74 (fun r_5 M_4 H locs h hw => ?_)
                        refine lv_iconst (v := (4 : Int32)) X.1 X.2.1 dX9_street_77 (by decide) ?_
                        obtain ⟨ht_, hf_⟩ := h
                        refine lv_icmp_ne (tgt := 83) X.1 X.2.1 dX9_street_78 (by decide) (fun c_ => ?_) (fun c_ => ?_)
                        · have h := ht_ c_
                          refine lv_aload_n X.1 X.2.1 dX9_street_83 rfl (lv_at hl 0 rfl) ?_
                          refine r_gf X inX9_street_X9 hw 0 rfl rfl 46 (by decide) (X.2.2.2.2 (.fieldLink RX9 137 "TestHallModel" "endA" "[I") (by decide +kernel)) rfl rfl dX9_street_84 ?_
                          refine lv_aload_n X.1 X.2.1 dX9_street_87 rfl (lv_at hl 0 rfl) ?_
                          refine r_gf X inX9_street_X9 hw 0 rfl rfl 45 (by decide) (X.2.2.2.2 (.fieldLink RX9 311 "TestHallModel" "streets" "I") (by decide +kernel)) rfl rfl dX9_street_88 ?_
                          refine lv_iload_n X.1 X.2.1 dX9_street_91 rfl (lv_at hl 1 rfl) ?_
                          obtain ⟨hi_, h⟩ := h
                          refine r_ias (w' := mw κ η (sA M_4 46 (gI M_4 45).toNatClampNeg a1)) X hw 33 0 rfl rfl hi_ rfl dX9_street_92 (fun H locs hw => ?_)
                          obtain ⟨M_6, eM_6⟩ : ∃ y : Sg, y = sA M_4 46 (gI M_4 45).toNatClampNeg a1 := ⟨_, rfl⟩
                          rw [← eM_6] at hw
                          have h := h M_6 eM_6
                          refine lv_aload_n X.1 X.2.1 dX9_street_93 rfl (lv_at hl 0 rfl) ?_
                          refine r_gf X inX9_street_X9 hw 0 rfl rfl 47 (by decide) (X.2.2.2.2 (.fieldLink RX9 140 "TestHallModel" "endB" "[I") (by decide +kernel)) rfl rfl dX9_street_94 ?_
                          refine lv_aload_n X.1 X.2.1 dX9_street_97 rfl (lv_at hl 0 rfl) ?_
                          refine r_gf X inX9_street_X9 hw 0 rfl rfl 45 (by decide) (X.2.2.2.2 (.fieldLink RX9 311 "TestHallModel" "streets" "I") (by decide +kernel)) rfl rfl dX9_street_98 ?_
                          refine lv_iload_n X.1 X.2.1 dX9_street_101 rfl (lv_at hl 2 rfl) ?_
                          obtain ⟨hi_, h⟩ := h
                          refine r_ias (w' := mw κ η (sA M_6 47 (gI M_6 45).toNatClampNeg a2)) X hw 34 0 rfl rfl hi_ rfl dX9_street_102 (fun H locs hw => ?_)
                          obtain ⟨M_7, eM_7⟩ : ∃ y : Sg, y = sA M_6 47 (gI M_6 45).toNatClampNeg a2 := ⟨_, rfl⟩
                          rw [← eM_7] at hw
                          have h := h M_7 eM_7
                          refine lv_aload_n X.1 X.2.1 dX9_street_103 rfl (lv_at hl 0 rfl) ?_
                          refine r_gf X inX9_street_X9 hw 0 rfl rfl 48 (by decide) (X.2.2.2.2 (.fieldLink RX9 143 "TestHallModel" "minutes" "[I") (by decide +kernel)) rfl rfl dX9_street_104 ?_
                          refine lv_aload_n X.1 X.2.1 dX9_street_107 rfl (lv_at hl 0 rfl) ?_
                          refine r_gf X inX9_street_X9 hw 0 rfl rfl 45 (by decide) (X.2.2.2.2 (.fieldLink RX9 311 "TestHallModel" "streets" "I") (by decide +kernel)) rfl rfl dX9_street_108 ?_
                          refine lv_iload_n X.1 X.2.1 dX9_street_111 rfl (lv_at hl 3 rfl) ?_
                          obtain ⟨hi_, h⟩ := h
                          refine r_ias (w' := mw κ η (sA M_7 48 (gI M_7 45).toNatClampNeg a3)) X hw 35 0 rfl rfl hi_ rfl dX9_street_112 (fun H locs hw => ?_)
                          obtain ⟨M_8, eM_8⟩ : ∃ y : Sg, y = sA M_7 48 (gI M_7 45).toNatClampNeg a3 := ⟨_, rfl⟩
                          rw [← eM_8] at hw
                          have h := h M_8 eM_8
                          refine lv_aload_n X.1 X.2.1 dX9_street_113 rfl (lv_at hl 0 rfl) ?_
                          refine r_gf X inX9_street_X9 hw 0 rfl rfl 49 (by decide) (X.2.2.2.2 (.fieldLink RX9 146 "TestHallModel" "marks" "[I") (by decide +kernel)) rfl rfl dX9_street_114 ?_
                          refine lv_aload_n X.1 X.2.1 dX9_street_117 rfl (lv_at hl 0 rfl) ?_
                          refine r_gf X inX9_street_X9 hw 0 rfl rfl 45 (by decide) (X.2.2.2.2 (.fieldLink RX9 311 "TestHallModel" "streets" "I") (by decide +kernel)) rfl rfl dX9_street_118 ?_
                          refine lv_iload X.1 X.2.1 dX9_street_121 (lv_at hl 4 rfl) ?_
                          obtain ⟨hi_, h⟩ := h
                          refine r_ias (w' := mw κ η (sA M_8 49 (gI M_8 45).toNatClampNeg a4)) X hw 36 0 rfl rfl hi_ rfl dX9_street_123 (fun H locs hw => ?_)
                          obtain ⟨M_9, eM_9⟩ : ∃ y : Sg, y = sA M_8 49 (gI M_8 45).toNatClampNeg a4 := ⟨_, rfl⟩
                          rw [← eM_9] at hw
                          have h := h M_9 eM_9
                          refine lv_aload_n X.1 X.2.1 dX9_street_124 rfl (lv_at hl 0 rfl) ?_
                          refine lv_dup X.1 X.2.1 dX9_street_125 rfl ?_
                          refine r_gf X inX9_street_X9 hw 0 rfl rfl 45 (by decide) (X.2.2.2.2 (.fieldLink RX9 311 "TestHallModel" "streets" "I") (by decide +kernel)) rfl rfl dX9_street_126 ?_
                          refine lv_iconst (v := (1 : Int32)) X.1 X.2.1 dX9_street_129 (by decide) ?_
                          refine lv_iadd X.1 X.2.1 dX9_street_130 ?_
                          refine r_pf (ty := .int) (w' := mw κ η (sI M_9 45 ((gI M_9 45) + (1 : Int32)))) X inX9_street_X9 tyX9_ok nmX9 hw 0 rfl rfl 45 (by decide) (X.2.2.2.2 (.fieldLink RX9 311 "TestHallModel" "streets" "I") (by decide +kernel)) rfl rfl (by decide +kernel) rfl rfl (Nat.le_of_ble_eq_true rfl) rfl dX9_street_131 (fun H locs hw => ?_)
                          obtain ⟨M_10, eM_10⟩ : ∃ y : Sg, y = sI M_9 45 ((gI M_9 45) + (1 : Int32)) := ⟨_, rfl⟩
                          rw [← eM_10] at hw
                          have h := h M_10 eM_10
                          refine lv_aload_n X.1 X.2.1 dX9_street_134 rfl (lv_at hl 0 rfl) ?_
                          refine r_gf X inX9_street_X9 hw 0 rfl rfl 45 (by decide) (X.2.2.2.2 (.fieldLink RX9 311 "TestHallModel" "streets" "I") (by decide +kernel)) rfl rfl dX9_street_135 ?_
                          refine lv_iconst (v := (1 : Int32)) X.1 X.2.1 dX9_street_138 (by decide) ?_
                          refine lv_isub X.1 X.2.1 dX9_street_139 ?_
                          exact r_ret X hr hlk hw h dX9_street_140
                        · have h := hf_ c_
                          refine lv_iconst (v := (-1 : Int32)) X.1 X.2.1 dX9_street_81 (by decide) ?_
                          exact r_ret X hr hlk hw h dX9_street_82

theorem inX9_close_X9 : ∀ w ∈ wsX90, w ∈ wsX9_close := fun w h => List.mem_cons_of_mem _ (List.mem_append_right _ h)
abbrev rmX9_close : Room := { frames := 0, cells := 0, slots := 0, locals := 0 }
def wX9_close (M : Sg) (a1 : Int32) (a2 : Int32) (Q : Sg → Int32 → Prop) : Prop := (∀ (M_1 : Sg), M_1 = sI M 0 (0 : Int32) → ((a1 < 0 → (Q M_1 (0 : Int32))) ∧ (¬ a1 < 0 → ((a1 < (gI M_1 45) → (vp_in a1 24 ∧ (∀ (M_2 : Sg), M_2 = sA M_1 50 a1.toNatClampNeg (vp_nar .boolean a2) → (Q M_2 (1 : Int32))))) ∧ (¬ a1 < (gI M_1 45) → (Q M_1 (0 : Int32)))))))
set_option maxHeartbeats 4000000 in
set_option maxRecDepth 100000 in
theorem kX9_close {l : Launch} {D : va_G} {κ : Nat → ClassId} {η : Nat → Nat} {σ : (Nat → Nat) × (Nat → Nat)} {M : Sg} {a1 : Int32} {a2 : Int32} {Q : Sg → Int32 → Prop} (h : wX9_close M a1 a2 Q) : Ki (cN σ) D (Ky κ) (mw κ η) l yX9_close wsX9_close rmX9_close [.ref (η 0), .int a1, .int a2] M Q := by
  refine ofW_g (Qc := fun A => Qi D (Ky κ) (mw κ η) A Q) (cc := cX9_close) (maxL := 3) (ret := (some .boolean)) (by decide) rfl (Nat.le_of_ble_eq_true rfl) ?_
  intro p e s m args below meth c A ls X hr hlk hw hl
  have hl : lv_has ls 3 [(0, .ref (η 0)), (1, .int a1), (2, .int a2)] := hl
  refine lv_aload_n X.1 X.2.1 dX9_close_0 rfl (lv_at hl 0 rfl) ?_
  refine lv_iconst (v := (0 : Int32)) X.1 X.2.1 dX9_close_1 (by decide) ?_
  refine r_pf (ty := .int) (w' := mw κ η (sI M 0 (0 : Int32))) X inX9_close_X9 tyX9_ok nmX9 hw 0 rfl rfl 0 (by decide) (X.2.2.2.2 (.fieldLink RX9 1 "TestHallModel" "thrown" "I") (by decide +kernel)) rfl rfl (by decide +kernel) rfl rfl (Nat.le_of_ble_eq_true rfl) rfl dX9_close_2 (fun H locs hw => ?_)
  obtain ⟨M_1, eM_1⟩ : ∃ y : Sg, y = sI M 0 (0 : Int32) := ⟨_, rfl⟩
  rw [← eM_1] at hw
  have h := h M_1 eM_1
  refine lv_iload_n X.1 X.2.1 dX9_close_5 rfl (lv_at hl 1 rfl) ?_
  obtain ⟨ht_, hf_⟩ := h
  refine lv_if_lt (tgt := 17) X.1 X.2.1 dX9_close_6 (by decide) (fun c_ => ?_) (fun c_ => ?_)
  · have h := ht_ c_
    refine lv_iconst (v := (0 : Int32)) X.1 X.2.1 dX9_close_17 (by decide) ?_
    exact r_zret X hr hlk hw rfl h dX9_close_18
  · have h := hf_ c_
    refine lv_iload_n X.1 X.2.1 dX9_close_9 rfl (lv_at hl 1 rfl) ?_
    refine lv_aload_n X.1 X.2.1 dX9_close_10 rfl (lv_at hl 0 rfl) ?_
    refine r_gf X inX9_close_X9 hw 0 rfl rfl 45 (by decide) (X.2.2.2.2 (.fieldLink RX9 311 "TestHallModel" "streets" "I") (by decide +kernel)) rfl rfl dX9_close_11 ?_
    obtain ⟨ht_, hf_⟩ := h
    refine lv_icmp_lt (tgt := 19) X.1 X.2.1 dX9_close_14 (by decide) (fun c_ => ?_) (fun c_ => ?_)
    · have h := ht_ c_
      refine lv_aload_n X.1 X.2.1 dX9_close_19 rfl (lv_at hl 0 rfl) ?_
      refine r_gf X inX9_close_X9 hw 0 rfl rfl 50 (by decide) (X.2.2.2.2 (.fieldLink RX9 149 "TestHallModel" "isClosed" "[Z") (by decide +kernel)) rfl rfl dX9_close_20 ?_
      refine lv_iload_n X.1 X.2.1 dX9_close_23 rfl (lv_at hl 1 rfl) ?_
      refine lv_iload_n X.1 X.2.1 dX9_close_24 rfl (lv_at hl 2 rfl) ?_
      obtain ⟨hi_, h⟩ := h
      refine r_zas (w' := mw κ η (sA M_1 50 a1.toNatClampNeg (vp_nar .boolean a2))) X hw 37 1 rfl rfl hi_ rfl dX9_close_25 (fun H locs hw => ?_)
      obtain ⟨M_2, eM_2⟩ : ∃ y : Sg, y = sA M_1 50 a1.toNatClampNeg (vp_nar .boolean a2) := ⟨_, rfl⟩
      rw [← eM_2] at hw
      have h := h M_2 eM_2
      refine lv_iconst (v := (1 : Int32)) X.1 X.2.1 dX9_close_26 (by decide) ?_
      exact r_zret X hr hlk hw rfl h dX9_close_27
    · have h := hf_ c_
      refine lv_iconst (v := (0 : Int32)) X.1 X.2.1 dX9_close_17 (by decide) ?_
      exact r_zret X hr hlk hw rfl h dX9_close_18
