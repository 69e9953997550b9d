abbrev rmX9_isLetter : Room := { frames := 0, cells := 0, slots := 0, locals := 0 }
def wX9_isLetter (M : Sg) (a0 : Int32) (Q : Sg → Int32 → Prop) : Prop := ((a0 < (97 : Int32) → (Q M (0 : Int32))) ∧ (¬ a0 < (97 : Int32) → (((122 : Int32) < a0 → (Q M (0 : Int32))) ∧ (¬ (122 : Int32) < a0 → (Q M (1 : Int32))))))
set_option maxHeartbeats 4000000 in
set_option maxRecDepth 100000 in
theorem kX9_isLetter {l : Launch} {D : va_G} {κ : Nat → ClassId} {η : Nat → Nat} {σ : (Nat → Nat) × (Nat → Nat)} {M : Sg} {a0 : Int32} {Q : Sg → Int32 → Prop} (h : wX9_isLetter M a0 Q) : Ki (cN σ) D (Ky κ) (mw κ η) l yX9_isLetter wsX9_isLetter rmX9_isLetter [.int a0] M Q := by
  refine ofW_g (Qc := fun A => Qi D (Ky κ) (mw κ η) A Q) (cc := cX9_isLetter) (maxL := 1) (ret := (some .boolean)) (by decide) rfl (Nat.le_of_ble_eq_true rfl) ?_
  intro p e s m args below meth c A ls X hr hlk hw hl
  have hl : lv_has ls 1 [(0, .int a0)] := hl
  refine lv_iload_n X.1 X.2.1 dX9_isLetter_0 rfl (lv_at hl 0 rfl) ?_
  refine lv_bipush (v := (97 : Int32)) X.1 X.2.1 dX9_isLetter_1 (by decide) ?_
  obtain ⟨ht_, hf_⟩ := h
  refine lv_icmp_lt (tgt := 16) X.1 X.2.1 dX9_isLetter_3 (by decide) (fun c_ => ?_) (fun c_ => ?_)
  · have h := ht_ c_
    refine lv_iconst (v := (0 : Int32)) X.1 X.2.1 dX9_isLetter_16 (by decide) ?_
    exact r_zret X hr hlk hw rfl h dX9_isLetter_17
  · have h := hf_ c_
    refine lv_iload_n X.1 X.2.1 dX9_isLetter_6 rfl (lv_at hl 0 rfl) ?_
    refine lv_bipush (v := (122 : Int32)) X.1 X.2.1 dX9_isLetter_7 (by decide) ?_
    obtain ⟨ht_, hf_⟩ := h
    refine lv_icmp_gt (tgt := 16) X.1 X.2.1 dX9_isLetter_9 (by decide) (fun c_ => ?_) (fun c_ => ?_)
    · have h := ht_ c_
      refine lv_iconst (v := (0 : Int32)) X.1 X.2.1 dX9_isLetter_16 (by decide) ?_
      exact r_zret X hr hlk hw rfl h dX9_isLetter_17
    · have h := hf_ c_
      refine lv_iconst (v := (1 : Int32)) X.1 X.2.1 dX9_isLetter_12 (by decide) ?_
      refine lv_goto (tgt := 17) X.1 X.2.1 dX9_isLetter_13 (by decide) ?_
      exact r_zret X hr hlk hw rfl h dX9_isLetter_17

abbrev rmX9_isDigit : Room := { frames := 0, cells := 0, slots := 0, locals := 0 }
def wX9_isDigit (M : Sg) (a0 : Int32) (Q : Sg → Int32 → Prop) : Prop := ((a0 < (48 : Int32) → (Q M (0 : Int32))) ∧ (¬ a0 < (48 : Int32) → (((57 : Int32) < a0 → (Q M (0 : Int32))) ∧ (¬ (57 : Int32) < a0 → (Q M (1 : Int32))))))
set_option maxHeartbeats 4000000 in
set_option maxRecDepth 100000 in
theorem kX9_isDigit {l : Launch} {D : va_G} {κ : Nat → ClassId} {η : Nat → Nat} {σ : (Nat → Nat) × (Nat → Nat)} {M : Sg} {a0 : Int32} {Q : Sg → Int32 → Prop} (h : wX9_isDigit M a0 Q) : Ki (cN σ) D (Ky κ) (mw κ η) l yX9_isDigit wsX9_isDigit rmX9_isDigit [.int a0] M Q := by
  refine ofW_g (Qc := fun A => Qi D (Ky κ) (mw κ η) A Q) (cc := cX9_isDigit) (maxL := 1) (ret := (some .boolean)) (by decide) rfl (Nat.le_of_ble_eq_true rfl) ?_
  intro p e s m args below meth c A ls X hr hlk hw hl
  have hl : lv_has ls 1 [(0, .int a0)] := hl
  refine lv_iload_n X.1 X.2.1 dX9_isDigit_0 rfl (lv_at hl 0 rfl) ?_
  refine lv_bipush (v := (48 : Int32)) X.1 X.2.1 dX9_isDigit_1 (by decide) ?_
  obtain ⟨ht_, hf_⟩ := h
  refine lv_icmp_lt (tgt := 16) X.1 X.2.1 dX9_isDigit_3 (by decide) (fun c_ => ?_) (fun c_ => ?_)
  · have h := ht_ c_
    refine lv_iconst (v := (0 : Int32)) X.1 X.2.1 dX9_isDigit_16 (by decide) ?_
    exact r_zret X hr hlk hw rfl h dX9_isDigit_17
  · have h := hf_ c_
    refine lv_iload_n X.1 X.2.1 dX9_isDigit_6 rfl (lv_at hl 0 rfl) ?_
    refine lv_bipush (v := (57 : Int32)) X.1 X.2.1 dX9_isDigit_7 (by decide) ?_
    obtain ⟨ht_, hf_⟩ := h
    refine lv_icmp_gt (tgt := 16) X.1 X.2.1 dX9_isDigit_9 (by decide) (fun c_ => ?_) (fun c_ => ?_)
    · have h := ht_ c_
      refine lv_iconst (v := (0 : Int32)) X.1 X.2.1 dX9_isDigit_16 (by decide) ?_
      exact r_zret X hr hlk hw rfl h dX9_isDigit_17
    · have h := hf_ c_
      refine lv_iconst (v := (1 : Int32)) X.1 X.2.1 dX9_isDigit_12 (by decide) ?_
      refine lv_goto (tgt := 17) X.1 X.2.1 dX9_isDigit_13 (by decide) ?_
      exact r_zret X hr hlk hw rfl h dX9_isDigit_17

abbrev rmX9_rank : Room := { frames := 1, cells := 0, slots := 0, locals := 20 }
def wX9_rank (M : Sg) (a0 : Int32) (Q : Sg → Int32 → Prop) : Prop := (wX9_isLetter M a0 (fun M_1 r_2 => ((r_2 = 0 → (Q M_1 (a0 - (21 : Int32)))) ∧ (¬ r_2 = 0 → (Q M_1 (a0 - (96 : Int32)))))))
set_option maxHeartbeats 4000000 in
set_option maxRecDepth 100000 in
theorem kX9_rank {l : Launch} {D : va_G} {κ : Nat → ClassId} {η : Nat → Nat} {σ : (Nat → Nat) × (Nat → Nat)} {M : Sg} {a0 : Int32} {Q : Sg → Int32 → Prop} (h : wX9_rank M a0 Q) : Ki (cN σ) D (Ky κ) (mw κ η) l yX9_rank wsX9_rank rmX9_rank [.int a0] M Q := by
  refine ofW_g (Qc := fun A => Qi D (Ky κ) (mw κ η) A Q) (cc := cX9_rank) (maxL := 1) (ret := (some .int)) (by decide) rfl (Nat.le_of_ble_eq_true rfl) ?_
  intro p e s m args below meth c A ls X hr hlk hw hl
  have hl : lv_has ls 1 [(0, .int a0)] := hl
  refine lv_iload_n X.1 X.2.1 dX9_rank_0 rfl (lv_at hl 0 rfl) ?_
  refine r_Si (As := [.int a0]) (rest := []) X cN_ok (kX9_isLetter h) (va_cwS 1 X.2.2.2.2 gX9_rank_X9_isLetter rfl rfl rfl (by decide +kernel) ⟨Nat.le_of_ble_eq_true rfl, Nat.le_of_ble_eq_true rfl⟩) hw rfl hl.1 rfl (Nat.le_of_ble_eq_true rfl) dX9_rank_1 (fun r_2 M_1 H locs h hw => ?_)
  obtain ⟨ht_, hf_⟩ := h
  refine lv_if_eq (tgt := 14) X.1 X.2.1 dX9_rank_4 (by decide) (fun c_ => ?_) (fun c_ => ?_)
  · have h := ht_ c_
    refine lv_iload_n X.1 X.2.1 dX9_rank_14 rfl (lv_at hl 0 rfl) ?_
    refine lv_bipush (v := (21 : Int32)) X.1 X.2.1 dX9_rank_15 (by decide) ?_
    refine lv_isub X.1 X.2.1 dX9_rank_17 ?_
    exact r_ret X hr hlk hw h dX9_rank_18
  · have h := hf_ c_
    refine lv_iload_n X.1 X.2.1 dX9_rank_7 rfl (lv_at hl 0 rfl) ?_
    refine lv_bipush (v := (96 : Int32)) X.1 X.2.1 dX9_rank_8 (by decide) ?_
    refine lv_isub X.1 X.2.1 dX9_rank_10 ?_
    refine lv_goto (tgt := 18) X.1 X.2.1 dX9_rank_11 (by decide) ?_
    exact r_ret X hr hlk hw h dX9_rank_18

abbrev rmX9_isSignOf : Room := { frames := 0, cells := 0, slots := 0, locals := 0 }
def wX9_isSignOf (M : Sg) (a0 : Int32) (Q : Sg → Int32 → Prop) : Prop := ((a0 = (40 : Int32) → (Q M (1 : Int32))) ∧ (¬ a0 = (40 : Int32) → ((a0 = (41 : Int32) → (Q M (1 : Int32))) ∧ (¬ a0 = (41 : Int32) → ((a0 = (59 : Int32) → (Q M (1 : Int32))) ∧ (¬ a0 = (59 : Int32) → ((a0 = (61 : Int32) → (Q M (1 : Int32))) ∧ (¬ a0 = (61 : Int32) → ((a0 = (60 : Int32) → (Q M (1 : Int32))) ∧ (¬ a0 = (60 : Int32) → ((a0 = (43 : Int32) → (Q M (1 : Int32))) ∧ (¬ a0 = (43 : Int32) → ((¬ a0 = (45 : Int32) → (Q M (0 : Int32))) ∧ (a0 = (45 : Int32) → (Q M (1 : Int32))))))))))))))))
set_option maxHeartbeats 4000000 in
set_option maxRecDepth 100000 in
theorem kX9_isSignOf {l : Launch} {D : va_G} {κ : Nat → ClassId} {η : Nat → Nat} {σ : (Nat → Nat) × (Nat → Nat)} {M : Sg} {a0 : Int32} {Q : Sg → Int32 → Prop} (h : wX9_isSignOf M a0 Q) : Ki (cN σ) D (Ky κ) (mw κ η) l yX9_isSignOf wsX9_isSignOf rmX9_isSignOf [.int a0] M Q := by
  refine ofW_g (Qc := fun A => Qi D (Ky κ) (mw κ η) A Q) (cc := cX9_isSignOf) (maxL := 1) (ret := (some .boolean)) (by decide) rfl (Nat.le_of_ble_eq_true rfl) ?_
  intro p e s m args below meth c A ls X hr hlk hw hl
  have hl : lv_has ls 1 [(0, .int a0)] := hl
  refine lv_iload_n X.1 X.2.1 dX9_isSignOf_0 rfl (lv_at hl 0 rfl) ?_
  refine lv_bipush (v := (40 : Int32)) X.1 X.2.1 dX9_isSignOf_1 (by decide) ?_
  obtain ⟨ht_, hf_⟩ := h
  refine lv_icmp_eq (tgt := 42) X.1 X.2.1 dX9_isSignOf_3 (by decide) (fun c_ => ?_) (fun c_ => ?_)
  · have h := ht_ c_
    refine lv_iconst (v := (1 : Int32)) X.1 X.2.1 dX9_isSignOf_42 (by decide) ?_
    refine lv_goto (tgt := 47) X.1 X.2.1 dX9_isSignOf_43 (by decide) ?_
    exact r_zret X hr hlk hw rfl h dX9_isSignOf_47
  · have h := hf_ c_
    refine lv_iload_n X.1 X.2.1 dX9_isSignOf_6 rfl (lv_at hl 0 rfl) ?_
    refine lv_bipush (v := (41 : Int32)) X.1 X.2.1 dX9_isSignOf_7 (by decide) ?_
    obtain ⟨ht_, hf_⟩ := h
    refine lv_icmp_eq (tgt := 42) X.1 X.2.1 dX9_isSignOf_9 (by decide) (fun c_ => ?_) (fun c_ => ?_)
    · have h := ht_ c_
      refine lv_iconst (v := (1 : Int32)) X.1 X.2.1 dX9_isSignOf_42 (by decide) ?_
      refine lv_goto (tgt := 47) X.1 X.2.1 dX9_isSignOf_43 (by decide) ?_
      exact r_zret X hr hlk hw rfl h dX9_isSignOf_47
    · have h := hf_ c_
      refine lv_iload_n X.1 X.2.1 dX9_isSignOf_12 rfl (lv_at hl 0 rfl) ?_
      refine lv_bipush (v := (59 : Int32)) X.1 X.2.1 dX9_isSignOf_13 (by decide) ?_
      obtain ⟨ht_, hf_⟩ := h
      refine lv_icmp_eq (tgt := 42) X.1 X.2.1 dX9_isSignOf_15 (by decide) (fun c_ => ?_) (fun c_ => ?_)
      · have h := ht_ c_
        refine lv_iconst (v := (1 : Int32)) X.1 X.2.1 dX9_isSignOf_42 (by decide) ?_
        refine lv_goto (tgt := 47) X.1 X.2.1 dX9_isSignOf_43 (by decide) ?_
        exact r_zret X hr hlk hw rfl h dX9_isSignOf_47
      · have h := hf_ c_
        refine lv_iload_n X.1 X.2.1 dX9_isSignOf_18 rfl (lv_at hl 0 rfl) ?_
        refine lv_bipush (v := (61 : Int32)) X.1 X.2.1 dX9_isSignOf_19 (by decide) ?_
        obtain ⟨ht_, hf_⟩ := h
        refine lv_icmp_eq (tgt := 42) X.1 X.2.1 dX9_isSignOf_21 (by decide) (fun c_ => ?_) (fun c_ => ?_)
        · have h := ht_ c_
          refine lv_iconst (v := (1 : Int32)) X.1 X.2.1 dX9_isSignOf_42 (by decide) ?_
          refine lv_goto (tgt := 47) X.1 X.2.1 dX9_isSignOf_43 (by decide) ?_
          exact r_zret X hr hlk hw rfl h dX9_isSignOf_47
        · have h := hf_ c_
          refine lv_iload_n X.1 X.2.1 dX9_isSignOf_24 rfl (lv_at hl 0 rfl) ?_
          refine lv_bipush (v := (60 : Int32)) X.1 X.2.1 dX9_isSignOf_25 (by decide) ?_
          obtain ⟨ht_, hf_⟩ := h
          refine lv_icmp_eq (tgt := 42) X.1 X.2.1 dX9_isSignOf_27 (by decide) (fun c_ => ?_) (fun c_ => ?_)
          · have h := ht_ c_
            refine lv_iconst (v := (1 : Int32)) X.1 X.2.1 dX9_isSignOf_42 (by decide) ?_
            refine lv_goto (tgt := 47) X.1 X.2.1 dX9_isSignOf_43 (by decide) ?_
            exact r_zret X hr hlk hw rfl h dX9_isSignOf_47
          · have h := hf_ c_
            refine lv_iload_n X.1 X.2.1 dX9_isSignOf_30 rfl (lv_at hl 0 rfl) ?_
            refine lv_bipush (v := (43 : Int32)) X.1 X.2.1 dX9_isSignOf_31 (by decide) ?_
            obtain ⟨ht_, hf_⟩ := h
            refine lv_icmp_eq (tgt := 42) X.1 X.2.1 dX9_isSignOf_33 (by decide) (fun c_ => ?_) (fun c_ => ?_)
            · have h := ht_ c_
              refine lv_iconst (v := (1 : Int32)) X.1 X.2.1 dX9_isSignOf_42 (by decide) ?_
              refine lv_goto (tgt := 47) X.1 X.2.1 dX9_isSignOf_43 (by decide) ?_
              exact r_zret X hr hlk hw rfl h dX9_isSignOf_47
            · have h := hf_ c_
              refine lv_iload_n X.1 X.2.1 dX9_isSignOf_36 rfl (lv_at hl 0 rfl) ?_
              refine lv_bipush (v := (45 : Int32)) X.1 X.2.1 dX9_isSignOf_37 (by decide) ?_
              obtain ⟨ht_, hf_⟩ := h
              refine lv_icmp_ne (tgt := 46) X.1 X.2.1 dX9_isSignOf_39 (by decide) (fun c_ => ?_) (fun c_ => ?_)
              · have h := ht_ c_
                refine lv_iconst (v := (0 : Int32)) X.1 X.2.1 dX9_isSignOf_46 (by decide) ?_
                exact r_zret X hr hlk hw rfl h dX9_isSignOf_47
              · have h := hf_ c_
                refine lv_iconst (v := (1 : Int32)) X.1 X.2.1 dX9_isSignOf_42 (by decide) ?_
                refine lv_goto (tgt := 47) X.1 X.2.1 dX9_isSignOf_43 (by decide) ?_
                exact r_zret X hr hlk hw rfl h dX9_isSignOf_47

theorem inX9_cutAll_X9 : ∀ w ∈ wsX90, w ∈ wsX9_cutAll := fun w h => List.mem_cons_of_mem _ (List.mem_append_right _ h)
abbrev rmX9_cutAll : Room := { frames := 2, cells := 0, slots := 0, locals := 40 }
def vX9_cutAll_44 (K17 : Sg → Int32 → Int32 → Prop) (Q : Sg → Prop) (M : Sg) (x1 : Int32) (x2 : Int32) : Prop := (∀ (x_1 : Int32), x_1 = x2 + (1 : Int32) → (K17 M x1 x_1))
set_option maxHeartbeats 4000000 in
set_option maxRecDepth 100000 in
theorem bX9_cutAll_44 {p : Program} {l : Launch} {e : Env} {s : State} {m : MethodId} {args : Array Value} {below : List Frame} {meth : Method} {c : Code} {D : va_G} {κ : Nat → ClassId} {η : Nat → Nat} {σ : (Nat → Nat) × (Nat → Nat)} {A : Nat → Prop} {Q : Sg → Prop} {K17 : Sg → Int32 → Int32 → Prop} (X : CallFix p m c cX9_cutAll 7 s args wsX9_cutAll RX9) (hr : meth.sig.returnType = none) (hlk : meth.locks = false) (hK17 : ∀ (M : Sg) (x1 : Int32) (x2 : Int32) (H : Heap) (locs : List Loc) (ls : Array Slot), K17 M x1 x2 → Wd (cN σ) D (Ky κ) A s (mw κ η M) H locs → lv_has ls 7 [(0, .ref (η 0)), (1, .int x1), (2, .int x2)] → W p l e rmX9_cutAll s m args below meth c H locs 0 0 (MQ below (Qv D (Ky κ) (mw κ η) A Q) args s 0 0 A) (F0 m 17 ls [])) : ∀ (M : Sg) (x1 : Int32) (x2 : Int32) (H : Heap) (locs : List Loc) (ls : Array Slot), vX9_cutAll_44 K17 Q M x1 x2 → Wd (cN σ) D (Ky κ) A s (mw κ η M) H locs → lv_has ls 7 [(0, .ref (η 0)), (1, .int x1), (2, .int x2)] → W p l e rmX9_cutAll s m args below meth c H locs 0 0 (MQ below (Qv D (Ky κ) (mw κ η) A Q) args s 0 0 A) (F0 m 44 ls []) := by
  intro M x1 x2 H locs ls h hw hl
  obtain ⟨x_1, ex_1⟩ : ∃ y : Int32, y = x2 + (1 : Int32) := ⟨_, rfl⟩
  have h := h x_1 ex_1
  refine lv_iinc (v := x_1) (lv' := [(2, .int x_1), (0, .ref (η 0)), (1, .int x1)]) X.1 X.2.1 dX9_cutAll_44 hl (k := 2) rfl (by rw [ex_1]; rfl) (by decide) rfl (fun ls hl => ?_)
  refine lv_goto (tgt := 17) X.1 X.2.1 dX9_cutAll_47 (by decide) ?_
  exact hK17 M x1 x_1 _ _ _ h hw (lv_sub hl [1, 2, 0] rfl)
def vX9_cutAll_265 (K17 : Sg → Int32 → Int32 → Prop) (Q : Sg → Prop) (M : Sg) (x1 : Int32) (x2 : Int32) (x5 : Int64) : Prop := (vp_in x1 602 ∧ (∀ (M_1 : Sg), M_1 = sJ M 6 x1.toNatClampNeg x5 → (∀ (x_2 : Int32), x_2 = x1 + (1 : Int32) → (K17 M_1 x_2 x2))))
set_option maxHeartbeats 4000000 in
set_option maxRecDepth 100000 in
theorem bX9_cutAll_265 {p : Program} {l : Launch} {e : Env} {s : State} {m : MethodId} {args : Array Value} {below : List Frame} {meth : Method} {c : Code} {D : va_G} {κ : Nat → ClassId} {η : Nat → Nat} {σ : (Nat → Nat) × (Nat → Nat)} {A : Nat → Prop} {Q : Sg → Prop} {K17 : Sg → Int32 → Int32 → Prop} (X : CallFix p m c cX9_cutAll 7 s args wsX9_cutAll RX9) (hr : meth.sig.returnType = none) (hlk : meth.locks = false) (hK17 : ∀ (M : Sg) (x1 : Int32) (x2 : Int32) (H : Heap) (locs : List Loc) (ls : Array Slot), K17 M x1 x2 → Wd (cN σ) D (Ky κ) A s (mw κ η M) H locs → lv_has ls 7 [(0, .ref (η 0)), (1, .int x1), (2, .int x2)] → W p l e rmX9_cutAll s m args below meth c H locs 0 0 (MQ below (Qv D (Ky κ) (mw κ η) A Q) args s 0 0 A) (F0 m 17 ls [])) : ∀ (M : Sg) (x1 : Int32) (x2 : Int32) (x5 : Int64) (H : Heap) (locs : List Loc) (ls : Array Slot), vX9_cutAll_265 K17 Q M x1 x2 x5 → Wd (cN σ) D (Ky κ) A s (mw κ η M) H locs → lv_has ls 7 [(0, .ref (η 0)), (1, .int x1), (2, .int x2), (5, .long x5)] → W p l e rmX9_cutAll s m args below meth c H locs 0 0 (MQ below (Qv D (Ky κ) (mw κ η) A Q) args s 0 0 A) (F0 m 265 ls []) := by
  intro M x1 x2 x5 H locs ls h hw hl
  refine lv_aload_n X.1 X.2.1 dX9_cutAll_265 rfl (lv_at hl 0 rfl) ?_
  refine r_gf X inX9_cutAll_X9 hw 0 rfl rfl 6 (by decide) (X.2.2.2.2 (.fieldLink RX9 30 "TestHallModel" "value" "[J") (by decide +kernel)) rfl rfl dX9_cutAll_266 ?_
  refine lv_iload_n X.1 X.2.1 dX9_cutAll_269 rfl (lv_at hl 1 rfl) ?_
  refine lv_lload X.1 X.2.1 dX9_cutAll_270 (lv_at hl 3 rfl) ?_
  obtain ⟨hi_, h⟩ := h
  refine r_las (w' := mw κ η (sJ M 6 x1.toNatClampNeg x5)) X hw 4 3 rfl rfl hi_ rfl dX9_cutAll_272 (fun H locs hw => ?_)
  obtain ⟨M_1, eM_1⟩ : ∃ y : Sg, y = sJ M 6 x1.toNatClampNeg x5 := ⟨_, rfl⟩
  rw [← eM_1] at hw
  have h := h M_1 eM_1
  obtain ⟨x_2, ex_2⟩ : ∃ y : Int32, y = x1 + (1 : Int32) := ⟨_, rfl⟩
  have h := h x_2 ex_2
  refine lv_iinc (v := x_2) (lv' := [(1, .int x_2), (0, .ref (η 0)), (2, .int x2), (5, .long x5)]) X.1 X.2.1 dX9_cutAll_273 hl (k := 1) rfl (by rw [ex_2]; rfl) (by decide) rfl (fun ls hl => ?_)
  refine lv_goto (tgt := 17) X.1 X.2.1 dX9_cutAll_276 (by decide) ?_
  exact hK17 M_1 x_2 x2 _ _ _ h hw (lv_sub hl [1, 0, 2] rfl)
def vX9_cutAll_261 (K17 : Sg → Int32 → Int32 → Prop) (Q : Sg → Prop) (M : Sg) (x1 : Int32) (x2 : Int32) (x5 : Int64) (s0 : Int32) (s1 : Int32) : Prop := (vp_in s1 602 ∧ (∀ (M_1 : Sg), M_1 = sA M 4 s1.toNatClampNeg s0 → (∀ (x_2 : Int32), x_2 = x2 + (1 : Int32) → (vX9_cutAll_265 K17 Q M_1 x1 x_2 x5))))
set_option maxHeartbeats 4000000 in
set_option maxRecDepth 100000 in
theorem bX9_cutAll_261 {p : Program} {l : Launch} {e : Env} {s : State} {m : MethodId} {args : Array Value} {below : List Frame} {meth : Method} {c : Code} {D : va_G} {κ : Nat → ClassId} {η : Nat → Nat} {σ : (Nat → Nat) × (Nat → Nat)} {A : Nat → Prop} {Q : Sg → Prop} {K17 : Sg → Int32 → Int32 → Prop} (X : CallFix p m c cX9_cutAll 7 s args wsX9_cutAll RX9) (hr : meth.sig.returnType = none) (hlk : meth.locks = false) (hK17 : ∀ (M : Sg) (x1 : Int32) (x2 : Int32) (H : Heap) (locs : List Loc) (ls : Array Slot), K17 M x1 x2 → Wd (cN σ) D (Ky κ) A s (mw κ η M) H locs → lv_has ls 7 [(0, .ref (η 0)), (1, .int x1), (2, .int x2)] → W p l e rmX9_cutAll s m args below meth c H locs 0 0 (MQ below (Qv D (Ky κ) (mw κ η) A Q) args s 0 0 A) (F0 m 17 ls [])) : ∀ (M : Sg) (x1 : Int32) (x2 : Int32) (x5 : Int64) (s0 : Int32) (s1 : Int32) (H : Heap) (locs : List Loc) (ls : Array Slot), vX9_cutAll_261 K17 Q M x1 x2 x5 s0 s1 → Wd (cN σ) D (Ky κ) A s (mw κ η M) H locs → lv_has ls 7 [(0, .ref (η 0)), (1, .int x1), (2, .int x2), (5, .long x5)] → W p l e rmX9_cutAll s m args below meth c H locs 0 0 (MQ below (Qv D (Ky κ) (mw κ η) A Q) args s 0 0 A) (F0 m 261 ls [.int s0, .int s1, .ref (η 2)]) := by
  intro M x1 x2 x5 s0 s1 H locs ls h hw hl
  obtain ⟨hi_, h⟩ := h
  refine r_ias (w' := mw κ η (sA M 4 s1.toNatClampNeg s0)) X hw 2 0 rfl rfl hi_ rfl dX9_cutAll_261 (fun H locs hw => ?_)
  obtain ⟨M_1, eM_1⟩ : ∃ y : Sg, y = sA M 4 s1.toNatClampNeg s0 := ⟨_, rfl⟩
  rw [← eM_1] at hw
  have h := h M_1 eM_1
  obtain ⟨x_2, ex_2⟩ : ∃ y : Int32, y = x2 + (1 : Int32) := ⟨_, rfl⟩
  have h := h x_2 ex_2
  refine lv_iinc (v := x_2) (lv' := [(2, .int x_2), (0, .ref (η 0)), (1, .int x1), (5, .long x5)]) X.1 X.2.1 dX9_cutAll_262 hl (k := 2) rfl (by rw [ex_2]; rfl) (by decide) rfl (fun ls hl => ?_)
  exact bX9_cutAll_265 X hr hlk hK17 M_1 x1 x_2 x5 _ _ _ h hw (lv_sub hl [1, 2, 0, 3] rfl)
def vX9_cutAll_236 (K17 : Sg → Int32 → Int32 → Prop) (Q : Sg → Prop) (M : Sg) (x1 : Int32) (x2 : Int32) (x5 : Int64) (s0 : Int32) (s1 : Int32) : Prop := (vp_in s1 602 ∧ (∀ (M_1 : Sg), M_1 = sA M 4 s1.toNatClampNeg s0 → (vX9_cutAll_265 K17 Q M_1 x1 x2 x5)))
set_option maxHeartbeats 4000000 in
set_option maxRecDepth 100000 in
theorem bX9_cutAll_236 {p : Program} {l : Launch} {e : Env} {s : State} {m : MethodId} {args : Array Value} {below : List Frame} {meth : Method} {c : Code} {D : va_G} {κ : Nat → ClassId} {η : Nat → Nat} {σ : (Nat → Nat) × (Nat → Nat)} {A : Nat → Prop} {Q : Sg → Prop} {K17 : Sg → Int32 → Int32 → Prop} (X : CallFix p m c cX9_cutAll 7 s args wsX9_cutAll RX9) (hr : meth.sig.returnType = none) (hlk : meth.locks = false) (hK17 : ∀ (M : Sg) (x1 : Int32) (x2 : Int32) (H : Heap) (locs : List Loc) (ls : Array Slot), K17 M x1 x2 → Wd (cN σ) D (Ky κ) A s (mw κ η M) H locs → lv_has ls 7 [(0, .ref (η 0)), (1, .int x1), (2, .int x2)] → W p l e rmX9_cutAll s m args below meth c H locs 0 0 (MQ below (Qv D (Ky κ) (mw κ η) A Q) args s 0 0 A) (F0 m 17 ls [])) : ∀ (M : Sg) (x1 : Int32) (x2 : Int32) (x5 : Int64) (s0 : Int32) (s1 : Int32) (H : Heap) (locs : List Loc) (ls : Array Slot), vX9_cutAll_236 K17 Q M x1 x2 x5 s0 s1 → Wd (cN σ) D (Ky κ) A s (mw κ η M) H locs → lv_has ls 7 [(0, .ref (η 0)), (1, .int x1), (2, .int x2), (5, .long x5)] → W p l e rmX9_cutAll s m args below meth c H locs 0 0 (MQ below (Qv D (Ky κ) (mw κ η) A Q) args s 0 0 A) (F0 m 236 ls [.int s0, .int s1, .ref (η 2)]) := by
  intro M x1 x2 x5 s0 s1 H locs ls h hw hl
  obtain ⟨hi_, h⟩ := h
  refine r_ias (w' := mw κ η (sA M 4 s1.toNatClampNeg s0)) X hw 2 0 rfl rfl hi_ rfl dX9_cutAll_236 (fun H locs hw => ?_)
  obtain ⟨M_1, eM_1⟩ : ∃ y : Sg, y = sA M 4 s1.toNatClampNeg s0 := ⟨_, rfl⟩
  rw [← eM_1] at hw
  have h := h M_1 eM_1
  refine lv_goto (tgt := 265) X.1 X.2.1 dX9_cutAll_237 (by decide) ?_
  exact bX9_cutAll_265 X hr hlk hK17 M_1 x1 x2 x5 _ _ _ h hw (lv_sub hl [0, 1, 2, 3] rfl)
def vX9_cutAll_218 (K17 : Sg → Int32 → Int32 → Prop) (Q : Sg → Prop) (M : Sg) (x1 : Int32) (x2 : Int32) (x4 : Int32) (x5 : Int64) : Prop := (((x2 - x4) ≤ (4 : Int32) → (vX9_cutAll_236 K17 Q M x1 x2 x5 (2 : Int32) x1)) ∧ (¬ (x2 - x4) ≤ (4 : Int32) → (vX9_cutAll_236 K17 Q M x1 x2 x5 (4 : Int32) x1)))
set_option maxHeartbeats 4000000 in
set_option maxRecDepth 100000 in
theorem bX9_cutAll_218 {p : Program} {l : Launch} {e : Env} {s : State} {m : MethodId} {args : Array Value} {below : List Frame} {meth : Method} {c : Code} {D : va_G} {κ : Nat → ClassId} {η : Nat → Nat} {σ : (Nat → Nat) × (Nat → Nat)} {A : Nat → Prop} {Q : Sg → Prop} {K17 : Sg → Int32 → Int32 → Prop} (X : CallFix p m c cX9_cutAll 7 s args wsX9_cutAll RX9) (hr : meth.sig.returnType = none) (hlk : meth.locks = false) (hK17 : ∀ (M : Sg) (x1 : Int32) (x2 : Int32) (H : Heap) (locs : List Loc) (ls : Array Slot), K17 M x1 x2 → Wd (cN σ) D (Ky κ) A s (mw κ η M) H locs → lv_has ls 7 [(0, .ref (η 0)), (1, .int x1), (2, .int x2)] → W p l e rmX9_cutAll s m args below meth c H locs 0 0 (MQ below (Qv D (Ky κ) (mw κ η) A Q) args s 0 0 A) (F0 m 17 ls [])) : ∀ (M : Sg) (x1 : Int32) (x2 : Int32) (x4 : Int32) (x5 : Int64) (H : Heap) (locs : List Loc) (ls : Array Slot), vX9_cutAll_218 K17 Q M x1 x2 x4 x5 → Wd (cN σ) D (Ky κ) A s (mw κ η M) H locs → lv_has ls 7 [(0, .ref (η 0)), (1, .int x1), (2, .int x2), (4, .int x4), (5, .long x5)] → W p l e rmX9_cutAll s m args below meth c H locs 0 0 (MQ below (Qv D (Ky κ) (mw κ η) A Q) args s 0 0 A) (F0 m 218 ls []) := by
  intro M x1 x2 x4 x5 H locs ls h hw hl
  refine lv_aload_n X.1 X.2.1 dX9_cutAll_218 rfl (lv_at hl 0 rfl) ?_
  refine r_gf X inX9_cutAll_X9 hw 0 rfl rfl 4 (by decide) (X.2.2.2.2 (.fieldLink RX9 24 "TestHallModel" "sort" "[I") (by decide +kernel)) rfl rfl dX9_cutAll_219 ?_
  refine lv_iload_n X.1 X.2.1 dX9_cutAll_222 rfl (lv_at hl 1 rfl) ?_
  refine lv_iload_n X.1 X.2.1 dX9_cutAll_223 rfl (lv_at hl 2 rfl) ?_
  refine lv_iload X.1 X.2.1 dX9_cutAll_224 (lv_at hl 3 rfl) ?_
  refine lv_isub X.1 X.2.1 dX9_cutAll_226 ?_
  refine lv_iconst (v := (4 : Int32)) X.1 X.2.1 dX9_cutAll_227 (by decide) ?_
  obtain ⟨ht_, hf_⟩ := h
  refine lv_icmp_le (tgt := 235) X.1 X.2.1 dX9_cutAll_228 (by decide) (fun c_ => ?_) (fun c_ => ?_)
  · have h := ht_ c_
    refine lv_iconst (v := (2 : Int32)) X.1 X.2.1 dX9_cutAll_235 (by decide) ?_
    exact bX9_cutAll_236 X hr hlk hK17 M x1 x2 x5 (2 : Int32) x1 _ _ _ h hw (lv_sub hl [0, 1, 2, 4] rfl)
  · have h := hf_ c_
    refine lv_iconst (v := (4 : Int32)) X.1 X.2.1 dX9_cutAll_231 (by decide) ?_
    refine lv_goto (tgt := 236) X.1 X.2.1 dX9_cutAll_232 (by decide) ?_
    exact bX9_cutAll_236 X hr hlk hK17 M x1 x2 x5 (4 : Int32) x1 _ _ _ h hw (lv_sub hl [0, 1, 2, 4] rfl)
def vX9_cutAll_210 (K17 : Sg → Int32 → Int32 → Prop) (K159 : Sg → Int32 → Int32 → Int32 → Int64 → Prop) (Q : Sg → Prop) (M : Sg) (x1 : Int32) (x2 : Int32) (x4 : Int32) (s0 : Int64) : Prop := (∀ (x_1 : Int32), x_1 = x2 + (1 : Int32) → (K159 M x1 x_1 x4 s0))
set_option maxHeartbeats 4000000 in
set_option maxRecDepth 100000 in
theorem bX9_cutAll_210 {p : Program} {l : Launch} {e : Env} {s : State} {m : MethodId} {args : Array Value} {below : List Frame} {meth : Method} {c : Code} {D : va_G} {κ : Nat → ClassId} {η : Nat → Nat} {σ : (Nat → Nat) × (Nat → Nat)} {A : Nat → Prop} {Q : Sg → Prop} {K17 : Sg → Int32 → Int32 → Prop} {K159 : Sg → Int32 → Int32 → Int32 → Int64 → Prop} (X : CallFix p m c cX9_cutAll 7 s args wsX9_cutAll RX9) (hr : meth.sig.returnType = none) (hlk : meth.locks = false) (hK17 : ∀ (M : Sg) (x1 : Int32) (x2 : Int32) (H : Heap) (locs : List Loc) (ls : Array Slot), K17 M x1 x2 → Wd (cN σ) D (Ky κ) A s (mw κ η M) H locs → lv_has ls 7 [(0, .ref (η 0)), (1, .int x1), (2, .int x2)] → W p l e rmX9_cutAll s m args below meth c H locs 0 0 (MQ below (Qv D (Ky κ) (mw κ η) A Q) args s 0 0 A) (F0 m 17 ls [])) (hK159 : ∀ (M : Sg) (x1 : Int32) (x2 : Int32) (x4 : Int32) (x5 : Int64) (H : Heap) (locs : List Loc) (ls : Array Slot), K159 M x1 x2 x4 x5 → Wd (cN σ) D (Ky κ) A s (mw κ η M) H locs → lv_has ls 7 [(0, .ref (η 0)), (1, .int x1), (2, .int x2), (4, .int x4), (5, .long x5)] → W p l e rmX9_cutAll s m args below meth c H locs 0 0 (MQ below (Qv D (Ky κ) (mw κ η) A Q) args s 0 0 A) (F0 m 159 ls [])) : ∀ (M : Sg) (x1 : Int32) (x2 : Int32) (x4 : Int32) (s0 : Int64) (H : Heap) (locs : List Loc) (ls : Array Slot), vX9_cutAll_210 K17 K159 Q M x1 x2 x4 s0 → Wd (cN σ) D (Ky κ) A s (mw κ η M) H locs → lv_has ls 7 [(0, .ref (η 0)), (1, .int x1), (2, .int x2), (4, .int x4)] → W p l e rmX9_cutAll s m args below meth c H locs 0 0 (MQ below (Qv D (Ky κ) (mw κ η) A Q) args s 0 0 A) (F0 m 210 ls [.long s0]) := by
  intro M x1 x2 x4 s0 H locs ls h hw hl
  refine lv_lstore (lv' := [(5, .long s0), (0, .ref (η 0)), (1, .int x1), (2, .int x2), (4, .int x4)]) X.1 X.2.1 dX9_cutAll_210 hl (by decide) rfl (fun ls hl => ?_)
  obtain ⟨x_1, ex_1⟩ : ∃ y : Int32, y = x2 + (1 : Int32) := ⟨_, rfl⟩
  have h := h x_1 ex_1
  refine lv_iinc (v := x_1) (lv' := [(2, .int x_1), (5, .long s0), (0, .ref (η 0)), (1, .int x1), (4, .int x4)]) X.1 X.2.1 dX9_cutAll_212 hl (k := 3) rfl (by rw [ex_1]; rfl) (by decide) rfl (fun ls hl => ?_)
  refine lv_goto (tgt := 159) X.1 X.2.1 dX9_cutAll_215 (by decide) ?_
  exact hK159 M x1 x_1 x4 s0 _ _ _ h hw (lv_sub hl [2, 3, 0, 4, 1] rfl)
def vX9_cutAll_159 (K17 : Sg → Int32 → Int32 → Prop) (Q : Sg → Prop) : Nat → Sg → Int32 → Int32 → Int32 → Int64 → Prop
  | 0, _, _, _, _, _ => False
  | f159_ + 1, M, x1, x2, x4, x5 => (((gI M 3) ≤ x2 → (vX9_cutAll_218 K17 Q M x1 x2 x4 x5)) ∧ (¬ (gI M 3) ≤ x2 → (vp_in x2 600 ∧ (wX9_isDigit M (gA M 1 x2.toNatClampNeg) (fun M_1 r_2 => ((r_2 = 0 → (vX9_cutAll_218 K17 Q M_1 x1 x2 x4 x5)) ∧ (¬ r_2 = 0 → (((4 : Int32) ≤ (x2 - x4) → (vX9_cutAll_210 K17 (vX9_cutAll_159 K17 Q f159_) Q M_1 x1 x2 x4 x5)) ∧ (¬ (4 : Int32) ≤ (x2 - x4) → (vp_in x2 600 ∧ (vX9_cutAll_210 K17 (vX9_cutAll_159 K17 Q f159_) Q M_1 x1 x2 x4 ((((10 : Int64) * x5) + (gA M_1 1 x2.toNatClampNeg).toInt64) - (48 : Int64)))))))))))))
set_option maxHeartbeats 4000000 in
set_option maxRecDepth 100000 in
theorem bX9_cutAll_159 {p : Program} {l : Launch} {e : Env} {s : State} {m : MethodId} {args : Array Value} {below : List Frame} {meth : Method} {c : Code} {D : va_G} {κ : Nat → ClassId} {η : Nat → Nat} {σ : (Nat → Nat) × (Nat → Nat)} {A : Nat → Prop} {Q : Sg → Prop} {K17 : Sg → Int32 → Int32 → Prop} (X : CallFix p m c cX9_cutAll 7 s args wsX9_cutAll RX9) (hr : meth.sig.returnType = none) (hlk : meth.locks = false) (hK17 : ∀ (M : Sg) (x1 : Int32) (x2 : Int32) (H : Heap) (locs : List Loc) (ls : Array Slot), K17 M x1 x2 → Wd (cN σ) D (Ky κ) A s (mw κ η M) H locs → lv_has ls 7 [(0, .ref (η 0)), (1, .int x1), (2, .int x2)] → W p l e rmX9_cutAll s m args below meth c H locs 0 0 (MQ below (Qv D (Ky κ) (mw κ η) A Q) args s 0 0 A) (F0 m 17 ls [])) : ∀ (f_ : Nat) (M : Sg) (x1 : Int32) (x2 : Int32) (x4 : Int32) (x5 : Int64) (H : Heap) (locs : List Loc) (ls : Array Slot), vX9_cutAll_159 K17 Q f_ M x1 x2 x4 x5 → Wd (cN σ) D (Ky κ) A s (mw κ η M) H locs → lv_has ls 7 [(0, .ref (η 0)), (1, .int x1), (2, .int x2), (4, .int x4), (5, .long x5)] → W p l e rmX9_cutAll s m args below meth c H locs 0 0 (MQ below (Qv D (Ky κ) (mw κ η) A Q) args s 0 0 A) (F0 m 159 ls []) := by
  intro f_
  induction f_ with
  | zero => intro M x1 x2 x4 x5 H locs ls h; exact h.elim
  | succ f_ hK159 =>
    intro M x1 x2 x4 x5 H locs ls h hw hl
    refine lv_iload_n X.1 X.2.1 dX9_cutAll_159 rfl (lv_at hl 2 rfl) ?_
    refine lv_aload_n X.1 X.2.1 dX9_cutAll_160 rfl (lv_at hl 0 rfl) ?_
    refine r_gf X inX9_cutAll_X9 hw 0 rfl rfl 3 (by decide) (X.2.2.2.2 (.fieldLink RX9 165 "TestHallModel" "size" "I") (by decide +kernel)) rfl rfl dX9_cutAll_161 ?_
    obtain ⟨ht_, hf_⟩ := h
    refine lv_icmp_ge (tgt := 218) X.1 X.2.1 dX9_cutAll_164 (by decide) (fun c_ => ?_) (fun c_ => ?_)
    · have h := ht_ c_
      exact bX9_cutAll_218 X hr hlk hK17 M x1 x2 x4 x5 _ _ _ h hw (lv_sub hl [0, 1, 2, 3, 4] rfl)
    · have h := hf_ c_
      refine lv_aload_n X.1 X.2.1 dX9_cutAll_167 rfl (lv_at hl 0 rfl) ?_
      refine r_gf X inX9_cutAll_X9 hw 0 rfl rfl 1 (by decide) (X.2.2.2.2 (.fieldLink RX9 14 "TestHallModel" "tape" "[I") (by decide +kernel)) rfl rfl dX9_cutAll_168 ?_
      refine lv_iload_n X.1 X.2.1 dX9_cutAll_171 rfl (lv_at hl 2 rfl) ?_
      obtain ⟨hi_, h⟩ := h
      refine r_ial X hw 1 0 rfl rfl hi_ dX9_cutAll_172 ?_
      refine r_Si (As := [.int (gA M 1 x2.toNatClampNeg)]) (rest := []) X cN_ok (kX9_isDigit h) (va_cwS 1 X.2.2.2.2 gX9_cutAll_X9_isDigit rfl rfl rfl (by decide +kernel) ⟨Nat.le_of_ble_eq_true rfl, Nat.le_of_ble_eq_true rfl⟩) hw rfl hl.1 rfl (Nat.le_of_ble_eq_true rfl) dX9_cutAll_173 (fun r_2 M_1 H locs h hw => ?_)
      obtain ⟨ht_, hf_⟩ := h
      refine lv_if_eq (tgt := 218) X.1 X.2.1 dX9_cutAll_176 (by decide) (fun c_ => ?_) (fun c_ => ?_)
      · have h := ht_ c_
        exact bX9_cutAll_218 X hr hlk hK17 M_1 x1 x2 x4 x5 _ _ _ h hw (lv_sub hl [0, 1, 2, 3, 4] rfl)
      · have h := hf_ c_
        refine lv_iload_n X.1 X.2.1 dX9_cutAll_179 rfl (lv_at hl 2 rfl) ?_
        refine lv_iload X.1 X.2.1 dX9_cutAll_180 (lv_at hl 3 rfl) ?_
        refine lv_isub X.1 X.2.1 dX9_cutAll_182 ?_
        refine lv_iconst (v := (4 : Int32)) X.1 X.2.1 dX9_cutAll_183 (by decide) ?_
        obtain ⟨ht_, hf_⟩ := h
        refine lv_icmp_ge (tgt := 208) X.1 X.2.1 dX9_cutAll_184 (by decide) (fun c_ => ?_) (fun c_ => ?_)
        · have h := ht_ c_
          refine lv_lload X.1 X.2.1 dX9_cutAll_208 (lv_at hl 4 rfl) ?_
          exact bX9_cutAll_210 X hr hlk hK17 hK159 M_1 x1 x2 x4 x5 _ _ _ h hw (lv_sub hl [0, 1, 2, 3] rfl)
        · have h := hf_ c_
          refine lv_ldc2 (v := (10 : Int64)) X.1 X.2.1 X.2.2.2.1 (X.2.2.2.2 _ (by decide +kernel)) dX9_cutAll_187 ?_
          refine lv_lload X.1 X.2.1 dX9_cutAll_190 (lv_at hl 4 rfl) ?_
          refine lv_lmul X.1 X.2.1 dX9_cutAll_192 ?_
          refine lv_aload_n X.1 X.2.1 dX9_cutAll_193 rfl (lv_at hl 0 rfl) ?_
          refine r_gf X inX9_cutAll_X9 hw 0 rfl rfl 1 (by decide) (X.2.2.2.2 (.fieldLink RX9 14 "TestHallModel" "tape" "[I") (by decide +kernel)) rfl rfl dX9_cutAll_194 ?_
          refine lv_iload_n X.1 X.2.1 dX9_cutAll_197 rfl (lv_at hl 2 rfl) ?_
          obtain ⟨hi_, h⟩ := h
          refine r_ial X hw 1 0 rfl rfl hi_ dX9_cutAll_198 ?_
          refine lv_i2l (v := (gA M_1 1 x2.toNatClampNeg).toInt64) X.1 X.2.1 dX9_cutAll_199 rfl ?_
          refine lv_ladd X.1 X.2.1 dX9_cutAll_200 ?_
          refine lv_ldc2 (v := (48 : Int64)) X.1 X.2.1 X.2.2.2.1 (X.2.2.2.2 _ (by decide +kernel)) dX9_cutAll_201 ?_
          refine lv_lsub X.1 X.2.1 dX9_cutAll_204 ?_
          refine lv_goto (tgt := 210) X.1 X.2.1 dX9_cutAll_205 (by decide) ?_
          exact bX9_cutAll_210 X hr hlk hK17 hK159 M_1 x1 x2 x4 ((((10 : Int64) * x5) + (gA M_1 1 x2.toNatClampNeg).toInt64) - (48 : Int64)) _ _ _ h hw (lv_sub hl [0, 1, 2, 3] rfl)
def vX9_cutAll_148 (K17 : Sg → Int32 → Int32 → Prop) (Q : Sg → Prop) (M : Sg) (x1 : Int32) (x2 : Int32) (x5 : Int64) (s0 : Int32) (s1 : Int32) : Prop := (vp_in s1 602 ∧ (∀ (M_1 : Sg), M_1 = sA M 4 s1.toNatClampNeg s0 → (vX9_cutAll_265 K17 Q M_1 x1 x2 x5)))
set_option maxHeartbeats 4000000 in
set_option maxRecDepth 100000 in
theorem bX9_cutAll_148 {p : Program} {l : Launch} {e : Env} {s : State} {m : MethodId} {args : Array Value} {below : List Frame} {meth : Method} {c : Code} {D : va_G} {κ : Nat → ClassId} {η : Nat → Nat} {σ : (Nat → Nat) × (Nat → Nat)} {A : Nat → Prop} {Q : Sg → Prop} {K17 : Sg → Int32 → Int32 → Prop} (X : CallFix p m c cX9_cutAll 7 s args wsX9_cutAll RX9) (hr : meth.sig.returnType = none) (hlk : meth.locks = false) (hK17 : ∀ (M : Sg) (x1 : Int32) (x2 : Int32) (H : Heap) (locs : List Loc) (ls : Array Slot), K17 M x1 x2 → Wd (cN σ) D (Ky κ) A s (mw κ η M) H locs → lv_has ls 7 [(0, .ref (η 0)), (1, .int x1), (2, .int x2)] → W p l e rmX9_cutAll s m args below meth c H locs 0 0 (MQ below (Qv D (Ky κ) (mw κ η) A Q) args s 0 0 A) (F0 m 17 ls [])) : ∀ (M : Sg) (x1 : Int32) (x2 : Int32) (x5 : Int64) (s0 : Int32) (s1 : Int32) (H : Heap) (locs : List Loc) (ls : Array Slot), vX9_cutAll_148 K17 Q M x1 x2 x5 s0 s1 → Wd (cN σ) D (Ky κ) A s (mw κ η M) H locs → lv_has ls 7 [(0, .ref (η 0)), (1, .int x1), (2, .int x2), (5, .long x5)] → W p l e rmX9_cutAll s m args below meth c H locs 0 0 (MQ below (Qv D (Ky κ) (mw κ η) A Q) args s 0 0 A) (F0 m 148 ls [.int s0, .int s1, .ref (η 2)]) := by
  intro M x1 x2 x5 s0 s1 H locs ls h hw hl
  obtain ⟨hi_, h⟩ := h
  refine r_ias (w' := mw κ η (sA M 4 s1.toNatClampNeg s0)) X hw 2 0 rfl rfl hi_ rfl dX9_cutAll_148 (fun H locs hw => ?_)
  obtain ⟨M_1, eM_1⟩ : ∃ y : Sg, y = sA M 4 s1.toNatClampNeg s0 := ⟨_, rfl⟩
  rw [← eM_1] at hw
  have h := h M_1 eM_1
  refine lv_goto (tgt := 265) X.1 X.2.1 dX9_cutAll_149 (by decide) ?_
  exact bX9_cutAll_265 X hr hlk hK17 M_1 x1 x2 x5 _ _ _ h hw (lv_sub hl [0, 1, 2, 3] rfl)
def vX9_cutAll_129 (K17 : Sg → Int32 → Int32 → Prop) (Q : Sg → Prop) (M : Sg) (x1 : Int32) (x2 : Int32) (x4 : Int32) (x5 : Int64) : Prop := (((x2 - x4) ≤ (8 : Int32) → (vX9_cutAll_148 K17 Q M x1 x2 x5 (1 : Int32) x1)) ∧ (¬ (x2 - x4) ≤ (8 : Int32) → (vX9_cutAll_148 K17 Q M x1 x2 x5 (4 : Int32) x1)))
set_option maxHeartbeats 4000000 in
set_option maxRecDepth 100000 in
theorem bX9_cutAll_129 {p : Program} {l : Launch} {e : Env} {s : State} {m : MethodId} {args : Array Value} {below : List Frame} {meth : Method} {c : Code} {D : va_G} {κ : Nat → ClassId} {η : Nat → Nat} {σ : (Nat → Nat) × (Nat → Nat)} {A : Nat → Prop} {Q : Sg → Prop} {K17 : Sg → Int32 → Int32 → Prop} (X : CallFix p m c cX9_cutAll 7 s args wsX9_cutAll RX9) (hr : meth.sig.returnType = none) (hlk : meth.locks = false) (hK17 : ∀ (M : Sg) (x1 : Int32) (x2 : Int32) (H : Heap) (locs : List Loc) (ls : Array Slot), K17 M x1 x2 → Wd (cN σ) D (Ky κ) A s (mw κ η M) H locs → lv_has ls 7 [(0, .ref (η 0)), (1, .int x1), (2, .int x2)] → W p l e rmX9_cutAll s m args below meth c H locs 0 0 (MQ below (Qv D (Ky κ) (mw κ η) A Q) args s 0 0 A) (F0 m 17 ls [])) : ∀ (M : Sg) (x1 : Int32) (x2 : Int32) (x4 : Int32) (x5 : Int64) (H : Heap) (locs : List Loc) (ls : Array Slot), vX9_cutAll_129 K17 Q M x1 x2 x4 x5 → Wd (cN σ) D (Ky κ) A s (mw κ η M) H locs → lv_has ls 7 [(0, .ref (η 0)), (1, .int x1), (2, .int x2), (4, .int x4), (5, .long x5)] → W p l e rmX9_cutAll s m args below meth c H locs 0 0 (MQ below (Qv D (Ky κ) (mw κ η) A Q) args s 0 0 A) (F0 m 129 ls []) := by
  intro M x1 x2 x4 x5 H locs ls h hw hl
  refine lv_aload_n X.1 X.2.1 dX9_cutAll_129 rfl (lv_at hl 0 rfl) ?_
  refine r_gf X inX9_cutAll_X9 hw 0 rfl rfl 4 (by decide) (X.2.2.2.2 (.fieldLink RX9 24 "TestHallModel" "sort" "[I") (by decide +kernel)) rfl rfl dX9_cutAll_130 ?_
  refine lv_iload_n X.1 X.2.1 dX9_cutAll_133 rfl (lv_at hl 1 rfl) ?_
  refine lv_iload_n X.1 X.2.1 dX9_cutAll_134 rfl (lv_at hl 2 rfl) ?_
  refine lv_iload X.1 X.2.1 dX9_cutAll_135 (lv_at hl 3 rfl) ?_
  refine lv_isub X.1 X.2.1 dX9_cutAll_137 ?_
  refine lv_bipush (v := (8 : Int32)) X.1 X.2.1 dX9_cutAll_138 (by decide) ?_
  obtain ⟨ht_, hf_⟩ := h
  refine lv_icmp_le (tgt := 147) X.1 X.2.1 dX9_cutAll_140 (by decide) (fun c_ => ?_) (fun c_ => ?_)
  · have h := ht_ c_
    refine lv_iconst (v := (1 : Int32)) X.1 X.2.1 dX9_cutAll_147 (by decide) ?_
    exact bX9_cutAll_148 X hr hlk hK17 M x1 x2 x5 (1 : Int32) x1 _ _ _ h hw (lv_sub hl [0, 1, 2, 4] rfl)
  · have h := hf_ c_
    refine lv_iconst (v := (4 : Int32)) X.1 X.2.1 dX9_cutAll_143 (by decide) ?_
    refine lv_goto (tgt := 148) X.1 X.2.1 dX9_cutAll_144 (by decide) ?_
    exact bX9_cutAll_148 X hr hlk hK17 M x1 x2 x5 (4 : Int32) x1 _ _ _ h hw (lv_sub hl [0, 1, 2, 4] rfl)
def vX9_cutAll_121 (K17 : Sg → Int32 → Int32 → Prop) (K70 : Sg → Int32 → Int32 → Int32 → Int64 → Prop) (Q : Sg → Prop) (M : Sg) (x1 : Int32) (x2 : Int32) (x4 : Int32) (s0 : Int64) : Prop := (∀ (x_1 : Int32), x_1 = x2 + (1 : Int32) → (K70 M x1 x_1 x4 s0))
set_option maxHeartbeats 4000000 in
set_option maxRecDepth 100000 in
theorem bX9_cutAll_121 {p : Program} {l : Launch} {e : Env} {s : State} {m : MethodId} {args : Array Value} {below : List Frame} {meth : Method} {c : Code} {D : va_G} {κ : Nat → ClassId} {η : Nat → Nat} {σ : (Nat → Nat) × (Nat → Nat)} {A : Nat → Prop} {Q : Sg → Prop} {K17 : Sg → Int32 → Int32 → Prop} {K70 : Sg → Int32 → Int32 → Int32 → Int64 → Prop} (X : CallFix p m c cX9_cutAll 7 s args wsX9_cutAll RX9) (hr : meth.sig.returnType = none) (hlk : meth.locks = false) (hK17 : ∀ (M : Sg) (x1 : Int32) (x2 : Int32) (H : Heap) (locs : List Loc) (ls : Array Slot), K17 M x1 x2 → Wd (cN σ) D (Ky κ) A s (mw κ η M) H locs → lv_has ls 7 [(0, .ref (η 0)), (1, .int x1), (2, .int x2)] → W p l e rmX9_cutAll s m args below meth c H locs 0 0 (MQ below (Qv D (Ky κ) (mw κ η) A Q) args s 0 0 A) (F0 m 17 ls [])) (hK70 : ∀ (M : Sg) (x1 : Int32) (x2 : Int32) (x4 : Int32) (x5 : Int64) (H : Heap) (locs : List Loc) (ls : Array Slot), K70 M x1 x2 x4 x5 → Wd (cN σ) D (Ky κ) A s (mw κ η M) H locs → lv_has ls 7 [(0, .ref (η 0)), (1, .int x1), (2, .int x2), (4, .int x4), (5, .long x5)] → W p l e rmX9_cutAll s m args below meth c H locs 0 0 (MQ below (Qv D (Ky κ) (mw κ η) A Q) args s 0 0 A) (F0 m 70 ls [])) : ∀ (M : Sg) (x1 : Int32) (x2 : Int32) (x4 : Int32) (s0 : Int64) (H : Heap) (locs : List Loc) (ls : Array Slot), vX9_cutAll_121 K17 K70 Q M x1 x2 x4 s0 → Wd (cN σ) D (Ky κ) A s (mw κ η M) H locs → lv_has ls 7 [(0, .ref (η 0)), (1, .int x1), (2, .int x2), (4, .int x4)] → W p l e rmX9_cutAll s m args below meth c H locs 0 0 (MQ below (Qv D (Ky κ) (mw κ η) A Q) args s 0 0 A) (F0 m 121 ls [.long s0]) := by
  intro M x1 x2 x4 s0 H locs ls h hw hl
  refine lv_lstore (lv' := [(5, .long s0), (0, .ref (η 0)), (1, .int x1), (2, .int x2), (4, .int x4)]) X.1 X.2.1 dX9_cutAll_121 hl (by decide) rfl (fun ls hl => ?_)
  obtain ⟨x_1, ex_1⟩ : ∃ y : Int32, y = x2 + (1 : Int32) := ⟨_, rfl⟩
  have h := h x_1 ex_1
  refine lv_iinc (v := x_1) (lv' := [(2, .int x_1), (5, .long s0), (0, .ref (η 0)), (1, .int x1), (4, .int x4)]) X.1 X.2.1 dX9_cutAll_123 hl (k := 3) rfl (by rw [ex_1]; rfl) (by decide) rfl (fun ls hl => ?_)
  refine lv_goto (tgt := 70) X.1 X.2.1 dX9_cutAll_126 (by decide) ?_
  exact hK70 M x1 x_1 x4 s0 _ _ _ h hw (lv_sub hl [2, 3, 0, 4, 1] rfl)
def vX9_cutAll_70 (K17 : Sg → Int32 → Int32 → Prop) (Q : Sg → Prop) : Nat → Sg → Int32 → Int32 → Int32 → Int64 → Prop
  | 0, _, _, _, _, _ => False
  | f70_ + 1, M, x1, x2, x4, x5 => (((gI M 3) ≤ x2 → (vX9_cutAll_129 K17 Q M x1 x2 x4 x5)) ∧ (¬ (gI M 3) ≤ x2 → (vp_in x2 600 ∧ (wX9_isLetter M (gA M 1 x2.toNatClampNeg) (fun M_1 r_2 => ((r_2 = 0 → (vX9_cutAll_129 K17 Q M_1 x1 x2 x4 x5)) ∧ (¬ r_2 = 0 → (((8 : Int32) ≤ (x2 - x4) → (vX9_cutAll_121 K17 (vX9_cutAll_70 K17 Q f70_) Q M_1 x1 x2 x4 x5)) ∧ (¬ (8 : Int32) ≤ (x2 - x4) → (vp_in x2 600 ∧ (wX9_rank M_1 (gA M_1 1 x2.toNatClampNeg) (fun M_3 r_4 => (vX9_cutAll_121 K17 (vX9_cutAll_70 K17 Q f70_) Q M_3 x1 x2 x4 (((37 : Int64) * x5) + r_4.toInt64))))))))))))))
set_option maxHeartbeats 4000000 in
set_option maxRecDepth 100000 in
theorem bX9_cutAll_70 {p : Program} {l : Launch} {e : Env} {s : State} {m : MethodId} {args : Array Value} {below : List Frame} {meth : Method} {c : Code} {D : va_G} {κ : Nat → ClassId} {η : Nat → Nat} {σ : (Nat → Nat) × (Nat → Nat)} {A : Nat → Prop} {Q : Sg → Prop} {K17 : Sg → Int32 → Int32 → Prop} (X : CallFix p m c cX9_cutAll 7 s args wsX9_cutAll RX9) (hr : meth.sig.returnType = none) (hlk : meth.locks = false) (hK17 : ∀ (M : Sg) (x1 : Int32) (x2 : Int32) (H : Heap) (locs : List Loc) (ls : Array Slot), K17 M x1 x2 → Wd (cN σ) D (Ky κ) A s (mw κ η M) H locs → lv_has ls 7 [(0, .ref (η 0)), (1, .int x1), (2, .int x2)] → W p l e rmX9_cutAll s m args below meth c H locs 0 0 (MQ below (Qv D (Ky κ) (mw κ η) A Q) args s 0 0 A) (F0 m 17 ls [])) : ∀ (f_ : Nat) (M : Sg) (x1 : Int32) (x2 : Int32) (x4 : Int32) (x5 : Int64) (H : Heap) (locs : List Loc) (ls : Array Slot), vX9_cutAll_70 K17 Q f_ M x1 x2 x4 x5 → Wd (cN σ) D (Ky κ) A s (mw κ η M) H locs → lv_has ls 7 [(0, .ref (η 0)), (1, .int x1), (2, .int x2), (4, .int x4), (5, .long x5)] → W p l e rmX9_cutAll s m args below meth c H locs 0 0 (MQ below (Qv D (Ky κ) (mw κ η) A Q) args s 0 0 A) (F0 m 70 ls []) := by
  intro f_
  induction f_ with
  | zero => intro M x1 x2 x4 x5 H locs ls h; exact h.elim
  | succ f_ hK70 =>
    intro M x1 x2 x4 x5 H locs ls h hw hl
    refine lv_iload_n X.1 X.2.1 dX9_cutAll_70 rfl (lv_at hl 2 rfl) ?_
    refine lv_aload_n X.1 X.2.1 dX9_cutAll_71 rfl (lv_at hl 0 rfl) ?_
    refine r_gf X inX9_cutAll_X9 hw 0 rfl rfl 3 (by decide) (X.2.2.2.2 (.fieldLink RX9 165 "TestHallModel" "size" "I") (by decide +kernel)) rfl rfl dX9_cutAll_72 ?_
    obtain ⟨ht_, hf_⟩ := h
    refine lv_icmp_ge (tgt := 129) X.1 X.2.1 dX9_cutAll_75 (by decide) (fun c_ => ?_) (fun c_ => ?_)
    · have h := ht_ c_
      exact bX9_cutAll_129 X hr hlk hK17 M x1 x2 x4 x5 _ _ _ h hw (lv_sub hl [0, 1, 2, 3, 4] rfl)
    · have h := hf_ c_
      refine lv_aload_n X.1 X.2.1 dX9_cutAll_78 rfl (lv_at hl 0 rfl) ?_
      refine r_gf X inX9_cutAll_X9 hw 0 rfl rfl 1 (by decide) (X.2.2.2.2 (.fieldLink RX9 14 "TestHallModel" "tape" "[I") (by decide +kernel)) rfl rfl dX9_cutAll_79 ?_
      refine lv_iload_n X.1 X.2.1 dX9_cutAll_82 rfl (lv_at hl 2 rfl) ?_
      obtain ⟨hi_, h⟩ := h
      refine r_ial X hw 1 0 rfl rfl hi_ dX9_cutAll_83 ?_
      refine r_Si (As := [.int (gA M 1 x2.toNatClampNeg)]) (rest := []) X cN_ok (kX9_isLetter h) (va_cwS 1 X.2.2.2.2 gX9_cutAll_X9_isLetter rfl rfl rfl (by decide +kernel) ⟨Nat.le_of_ble_eq_true rfl, Nat.le_of_ble_eq_true rfl⟩) hw rfl hl.1 rfl (Nat.le_of_ble_eq_true rfl) dX9_cutAll_84 (fun r_2 M_1 H locs h hw => ?_)
      obtain ⟨ht_, hf_⟩ := h
      refine lv_if_eq (tgt := 129) X.1 X.2.1 dX9_cutAll_87 (by decide) (fun c_ => ?_) (fun c_ => ?_)
      · have h := ht_ c_
        exact bX9_cutAll_129 X hr hlk hK17 M_1 x1 x2 x4 x5 _ _ _ h hw (lv_sub hl [0, 1, 2, 3, 4] rfl)
      · have h := hf_ c_
        refine lv_iload_n X.1 X.2.1 dX9_cutAll_90 rfl (lv_at hl 2 rfl) ?_
        refine lv_iload X.1 X.2.1 dX9_cutAll_91 (lv_at hl 3 rfl) ?_
        refine lv_isub X.1 X.2.1 dX9_cutAll_93 ?_
        refine lv_bipush (v := (8 : Int32)) X.1 X.2.1 dX9_cutAll_94 (by decide) ?_
        obtain ⟨ht_, hf_⟩ := h
        refine lv_icmp_ge (tgt := 119) X.1 X.2.1 dX9_cutAll_96 (by decide) (fun c_ => ?_) (fun c_ => ?_)
        · have h := ht_ c_
          refine lv_lload X.1 X.2.1 dX9_cutAll_119 (lv_at hl 4 rfl) ?_
          exact bX9_cutAll_121 X hr hlk hK17 hK70 M_1 x1 x2 x4 x5 _ _ _ h hw (lv_sub hl [0, 1, 2, 3] rfl)
        · have h := hf_ c_
          refine lv_ldc2 (v := (37 : Int64)) X.1 X.2.1 X.2.2.2.1 (X.2.2.2.2 _ (by decide +kernel)) dX9_cutAll_99 ?_
          refine lv_lload X.1 X.2.1 dX9_cutAll_102 (lv_at hl 4 rfl) ?_
          refine lv_lmul X.1 X.2.1 dX9_cutAll_104 ?_
          refine lv_aload_n X.1 X.2.1 dX9_cutAll_105 rfl (lv_at hl 0 rfl) ?_
          refine r_gf X inX9_cutAll_X9 hw 0 rfl rfl 1 (by decide) (X.2.2.2.2 (.fieldLink RX9 14 "TestHallModel" "tape" "[I") (by decide +kernel)) rfl rfl dX9_cutAll_106 ?_
          refine lv_iload_n X.1 X.2.1 dX9_cutAll_109 rfl (lv_at hl 2 rfl) ?_
          obtain ⟨hi_, h⟩ := h
          refine r_ial X hw 1 0 rfl rfl hi_ dX9_cutAll_110 ?_
          refine r_Si (As := [.int (gA M_1 1 x2.toNatClampNeg)]) (rest := [.long ((37 : Int64) * x5)]) X cN_ok (kX9_rank h) (va_cwS 1 X.2.2.2.2 gX9_cutAll_X9_rank rfl rfl rfl (by decide +kernel) ⟨Nat.le_of_ble_eq_true rfl, Nat.le_of_ble_eq_true rfl⟩) hw rfl hl.1 rfl (Nat.le_of_ble_eq_true rfl) dX9_cutAll_111 (fun r_4 M_3 H locs h hw => ?_)
          refine lv_i2l (v := r_4.toInt64) X.1 X.2.1 dX9_cutAll_114 rfl ?_
          refine lv_ladd X.1 X.2.1 dX9_cutAll_115 ?_
          refine lv_goto (tgt := 121) X.1 X.2.1 dX9_cutAll_116 (by decide) ?_
          exact bX9_cutAll_121 X hr hlk hK17 hK70 M_3 x1 x2 x4 (((37 : Int64) * x5) + r_4.toInt64) _ _ _ h hw (lv_sub hl [0, 1, 2, 3] rfl)
def vX9_cutAll_17 (Q : Sg → Prop) : Nat → Sg → Int32 → Int32 → Prop
  | 0, _, _, _ => False
  | f17_ + 1, M, x1, x2 => (((gI M 3) ≤ x2 → (vp_in x1 602 ∧ (∀ (M_1 : Sg), M_1 = sA M 4 x1.toNatClampNeg (0 : Int32) → (vp_in x1 602 ∧ (∀ (M_2 : Sg), M_2 = sA M_1 5 x1.toNatClampNeg (gI M_1 3) → (∀ (M_3 : Sg), M_3 = sI M_2 7 (0 : Int32) → (∀ (M_4 : Sg), M_4 = sI M_3 8 (0 : Int32) → (Q M_4)))))))) ∧ (¬ (gI M 3) ≤ x2 → (vp_in x2 600 ∧ (∀ (x_5 : Int32), x_5 = (gA M 1 x2.toNatClampNeg) → ((x_5 = (10 : Int32) → (vX9_cutAll_44 (vX9_cutAll_17 Q f17_) Q M x1 x2)) ∧ (¬ x_5 = (10 : Int32) → ((¬ x_5 = (32 : Int32) → (vp_in x1 602 ∧ (∀ (M_6 : Sg), M_6 = sA M 5 x1.toNatClampNeg x2 → (wX9_isLetter M_6 x_5 (fun M_7 r_8 => ((r_8 = 0 → (wX9_isDigit M_7 x_5 (fun M_9 r_10 => ((r_10 = 0 → (∀ (x_11 : Int64), x_11 = x_5.toInt64 → (wX9_isSignOf M_9 x_5 (fun M_12 r_13 => ((r_13 = 0 → (vX9_cutAll_261 (vX9_cutAll_17 Q f17_) Q M_12 x1 x2 x_11 (4 : Int32) x1)) ∧ (¬ r_13 = 0 → (vX9_cutAll_261 (vX9_cutAll_17 Q f17_) Q M_12 x1 x2 x_11 (3 : Int32) x1))))))) ∧ (¬ r_10 = 0 → (∃ g159_ : Nat, vX9_cutAll_159 (vX9_cutAll_17 Q f17_) Q g159_ M_9 x1 x2 x2 (0 : Int64))))))) ∧ (¬ r_8 = 0 → (∃ g70_ : Nat, vX9_cutAll_70 (vX9_cutAll_17 Q f17_) Q g70_ M_7 x1 x2 x2 (0 : Int64))))))))) ∧ (x_5 = (32 : Int32) → (vX9_cutAll_44 (vX9_cutAll_17 Q f17_) Q M x1 x2)))))))))
set_option maxHeartbeats 4000000 in
set_option maxRecDepth 100000 in
theorem bX9_cutAll_17 {p : Program} {l : Launch} {e : Env} {s : State} {m : MethodId} {args : Array Value} {below : List Frame} {meth : Method} {c : Code} {D : va_G} {κ : Nat → ClassId} {η : Nat → Nat} {σ : (Nat → Nat) × (Nat → Nat)} {A : Nat → Prop} {Q : Sg → Prop} (X : CallFix p m c cX9_cutAll 7 s args wsX9_cutAll RX9) (hr : meth.sig.returnType = none) (hlk : meth.locks = false) : ∀ (f_ : Nat) (M : Sg) (x1 : Int32) (x2 : Int32) (H : Heap) (locs : List Loc) (ls : Array Slot), vX9_cutAll_17 Q f_ M x1 x2 → Wd (cN σ) D (Ky κ) A s (mw κ η M) H locs → lv_has ls 7 [(0, .ref (η 0)), (1, .int x1), (2, .int x2)] → W p l e rmX9_cutAll s m args below meth c H locs 0 0 (MQ below (Qv D (Ky κ) (mw κ η) A Q) args s 0 0 A) (F0 m 17 ls []) := by
  intro f_
  induction f_ with
  | zero => intro M x1 x2 H locs ls h; exact h.elim
  | succ f_ hK17 =>
    intro M x1 x2 H locs ls h hw hl
    refine lv_iload_n X.1 X.2.1 dX9_cutAll_17 rfl (lv_at hl 2 rfl) ?_
    refine lv_aload_n X.1 X.2.1 dX9_cutAll_18 rfl (lv_at hl 0 rfl) ?_
    refine r_gf X inX9_cutAll_X9 hw 0 rfl rfl 3 (by decide) (X.2.2.2.2 (.fieldLink RX9 165 "TestHallModel" "size" "I") (by decide +kernel)) rfl rfl dX9_cutAll_19 ?_
    obtain ⟨ht_, hf_⟩ := h
    refine lv_icmp_ge (tgt := 279) X.1 X.2.1 dX9_cutAll_22 (by decide) (fun c_ => ?_) (fun c_ => ?_)
    · have h := ht_ c_
      refine lv_aload_n X.1 X.2.1 dX9_cutAll_279 rfl (lv_at hl 0 rfl) ?_
      refine r_gf X inX9_cutAll_X9 hw 0 rfl rfl 4 (by decide) (X.2.2.2.2 (.fieldLink RX9 24 "TestHallModel" "sort" "[I") (by decide +kernel)) rfl rfl dX9_cutAll_280 ?_
      refine lv_iload_n X.1 X.2.1 dX9_cutAll_283 rfl (lv_at hl 1 rfl) ?_
      refine lv_iconst (v := (0 : Int32)) X.1 X.2.1 dX9_cutAll_284 (by decide) ?_
      obtain ⟨hi_, h⟩ := h
      refine r_ias (w' := mw κ η (sA M 4 x1.toNatClampNeg (0 : Int32))) X hw 2 0 rfl rfl hi_ rfl dX9_cutAll_285 (fun H locs hw => ?_)
      obtain ⟨M_1, eM_1⟩ : ∃ y : Sg, y = sA M 4 x1.toNatClampNeg (0 : Int32) := ⟨_, rfl⟩
      rw [← eM_1] at hw
      have h := h M_1 eM_1
      refine lv_aload_n X.1 X.2.1 dX9_cutAll_286 rfl (lv_at hl 0 rfl) ?_
      refine r_gf X inX9_cutAll_X9 hw 0 rfl rfl 5 (by decide) (X.2.2.2.2 (.fieldLink RX9 27 "TestHallModel" "place" "[I") (by decide +kernel)) rfl rfl dX9_cutAll_287 ?_
      refine lv_iload_n X.1 X.2.1 dX9_cutAll_290 rfl (lv_at hl 1 rfl) ?_
      refine lv_aload_n X.1 X.2.1 dX9_cutAll_291 rfl (lv_at hl 0 rfl) ?_
      refine r_gf X inX9_cutAll_X9 hw 0 rfl rfl 3 (by decide) (X.2.2.2.2 (.fieldLink RX9 165 "TestHallModel" "size" "I") (by decide +kernel)) rfl rfl dX9_cutAll_292 ?_
      obtain ⟨hi_, h⟩ := h
      refine r_ias (w' := mw κ η (sA M_1 5 x1.toNatClampNeg (gI M_1 3))) X hw 3 0 rfl rfl hi_ rfl dX9_cutAll_295 (fun H locs hw => ?_)
      obtain ⟨M_2, eM_2⟩ : ∃ y : Sg, y = sA M_1 5 x1.toNatClampNeg (gI M_1 3) := ⟨_, rfl⟩
      rw [← eM_2] at hw
      have h := h M_2 eM_2
      refine lv_aload_n X.1 X.2.1 dX9_cutAll_296 rfl (lv_at hl 0 rfl) ?_
      refine lv_iconst (v := (0 : Int32)) X.1 X.2.1 dX9_cutAll_297 (by decide) ?_
      refine r_pf (ty := .int) (w' := mw κ η (sI M_2 7 (0 : Int32))) X inX9_cutAll_X9 tyX9_ok nmX9 hw 0 rfl rfl 7 (by decide) (X.2.2.2.2 (.fieldLink RX9 183 "TestHallModel" "at" "I") (by decide +kernel)) rfl rfl (by decide +kernel) rfl rfl (Nat.le_of_ble_eq_true rfl) rfl dX9_cutAll_298 (fun H locs hw => ?_)
      obtain ⟨M_3, eM_3⟩ : ∃ y : Sg, y = sI M_2 7 (0 : Int32) := ⟨_, rfl⟩
      rw [← eM_3] at hw
      have h := h M_3 eM_3
      refine lv_aload_n X.1 X.2.1 dX9_cutAll_301 rfl (lv_at hl 0 rfl) ?_
      refine lv_iconst (v := (0 : Int32)) X.1 X.2.1 dX9_cutAll_302 (by decide) ?_
      refine r_pf (ty := .int) (w' := mw κ η (sI M_3 8 (0 : Int32))) X inX9_cutAll_X9 tyX9_ok nmX9 hw 0 rfl rfl 8 (by decide) (X.2.2.2.2 (.fieldLink RX9 186 "TestHallModel" "fault" "I") (by decide +kernel)) rfl rfl (by decide +kernel) rfl rfl (Nat.le_of_ble_eq_true rfl) rfl dX9_cutAll_303 (fun H locs hw => ?_)
      obtain ⟨M_4, eM_4⟩ : ∃ y : Sg, y = sI M_3 8 (0 : Int32) := ⟨_, rfl⟩
      rw [← eM_4] at hw
      have h := h M_4 eM_4
      exact r_vret X hr hlk hw h dX9_cutAll_306
    · have h := hf_ c_
      refine lv_aload_n X.1 X.2.1 dX9_cutAll_25 rfl (lv_at hl 0 rfl) ?_
      refine r_gf X inX9_cutAll_X9 hw 0 rfl rfl 1 (by decide) (X.2.2.2.2 (.fieldLink RX9 14 "TestHallModel" "tape" "[I") (by decide +kernel)) rfl rfl dX9_cutAll_26 ?_
      refine lv_iload_n X.1 X.2.1 dX9_cutAll_29 rfl (lv_at hl 2 rfl) ?_
      obtain ⟨hi_, h⟩ := h
      refine r_ial X hw 1 0 rfl rfl hi_ dX9_cutAll_30 ?_
      refine lv_topi (fun x_5 ex_5 => ?_)
      have h := h x_5 ex_5
      refine lv_istore_n (lv' := [(3, .int x_5), (0, .ref (η 0)), (1, .int x1), (2, .int x2)]) X.1 X.2.1 dX9_cutAll_31 rfl hl (by decide) rfl (fun ls hl => ?_)
      refine lv_iload_n X.1 X.2.1 dX9_cutAll_32 rfl (lv_at hl 0 rfl) ?_
      refine lv_bipush (v := (10 : Int32)) X.1 X.2.1 dX9_cutAll_33 (by decide) ?_
      obtain ⟨ht_, hf_⟩ := h
      refine lv_icmp_eq (tgt := 44) X.1 X.2.1 dX9_cutAll_35 (by decide) (fun c_ => ?_) (fun c_ => ?_)
      · have h := ht_ c_
        exact bX9_cutAll_44 X hr hlk hK17 M x1 x2 _ _ _ h hw (lv_sub hl [1, 2, 3] rfl)
      · have h := hf_ c_
        refine lv_iload_n X.1 X.2.1 dX9_cutAll_38 rfl (lv_at hl 0 rfl) ?_
        refine lv_bipush (v := (32 : Int32)) X.1 X.2.1 dX9_cutAll_39 (by decide) ?_
        obtain ⟨ht_, hf_⟩ := h
        refine lv_icmp_ne (tgt := 50) X.1 X.2.1 dX9_cutAll_41 (by decide) (fun c_ => ?_) (fun c_ => ?_)
        · have h := ht_ c_
          refine lv_iload_n X.1 X.2.1 dX9_cutAll_50 rfl (lv_at hl 3 rfl) ?_
          refine lv_istore (lv' := [(4, .int x2), (3, .int x_5), (0, .ref (η 0)), (1, .int x1), (2, .int x2)]) X.1 X.2.1 dX9_cutAll_51 hl (by decide) rfl (fun ls hl => ?_)
          refine lv_lconst (v := (0 : Int64)) X.1 X.2.1 dX9_cutAll_53 (by decide) ?_
          refine lv_lstore (lv' := [(5, .long (0 : Int64)), (4, .int x2), (3, .int x_5), (0, .ref (η 0)), (1, .int x1), (2, .int x2)]) X.1 X.2.1 dX9_cutAll_54 hl (by decide) rfl (fun ls hl => ?_)
          refine lv_aload_n X.1 X.2.1 dX9_cutAll_56 rfl (lv_at hl 3 rfl) ?_
          refine r_gf X inX9_cutAll_X9 hw 0 rfl rfl 5 (by decide) (X.2.2.2.2 (.fieldLink RX9 27 "TestHallModel" "place" "[I") (by decide +kernel)) rfl rfl dX9_cutAll_57 ?_
          refine lv_iload_n X.1 X.2.1 dX9_cutAll_60 rfl (lv_at hl 4 rfl) ?_
          refine lv_iload_n X.1 X.2.1 dX9_cutAll_61 rfl (lv_at hl 5 rfl) ?_
          obtain ⟨hi_, h⟩ := h
          refine r_ias (w' := mw κ η (sA M 5 x1.toNatClampNeg x2)) X hw 3 0 rfl rfl hi_ rfl dX9_cutAll_62 (fun H locs hw => ?_)
          obtain ⟨M_6, eM_6⟩ : ∃ y : Sg, y = sA M 5 x1.toNatClampNeg x2 := ⟨_, rfl⟩
          rw [← eM_6] at hw
          have h := h M_6 eM_6
          refine lv_iload_n X.1 X.2.1 dX9_cutAll_63 rfl (lv_at hl 2 rfl) ?_
          refine r_Si (As := [.int x_5]) (rest := []) X cN_ok (kX9_isLetter h) (va_cwS 1 X.2.2.2.2 gX9_cutAll_X9_isLetter rfl rfl rfl (by decide +kernel) ⟨Nat.le_of_ble_eq_true rfl, Nat.le_of_ble_eq_true rfl⟩) hw rfl hl.1 rfl (Nat.le_of_ble_eq_true rfl) dX9_cutAll_64 (fun r_8 M_7 H locs h hw => ?_)
          obtain ⟨ht_, hf_⟩ := h
          refine lv_if_eq (tgt := 152) X.1 X.2.1 dX9_cutAll_67 (by decide) (fun c_ => ?_) (fun c_ => ?_)
          · have h := ht_ c_
            refine lv_iload_n X.1 X.2.1 dX9_cutAll_152 rfl (lv_at hl 2 rfl) ?_
            refine r_Si (As := [.int x_5]) (rest := []) X cN_ok (kX9_isDigit h) (va_cwS 1 X.2.2.2.2 gX9_cutAll_X9_isDigit rfl rfl rfl (by decide +kernel) ⟨Nat.le_of_ble_eq_true rfl, Nat.le_of_ble_eq_true rfl⟩) hw rfl hl.1 rfl (Nat.le_of_ble_eq_true rfl) dX9_cutAll_153 (fun r_10 M_9 H locs h hw => ?_)
            obtain ⟨ht_, hf_⟩ := h
            refine lv_if_eq (tgt := 240) X.1 X.2.1 dX9_cutAll_156 (by decide) (fun c_ => ?_) (fun c_ => ?_)
            · have h := ht_ c_
              refine lv_iload_n X.1 X.2.1 dX9_cutAll_240 rfl (lv_at hl 2 rfl) ?_
              refine lv_i2l (v := x_5.toInt64) X.1 X.2.1 dX9_cutAll_241 rfl ?_
              refine lv_topl (fun x_11 ex_11 => ?_)
              have h := h x_11 ex_11
              refine lv_lstore (lv' := [(5, .long x_11), (4, .int x2), (3, .int x_5), (0, .ref (η 0)), (1, .int x1), (2, .int x2)]) X.1 X.2.1 dX9_cutAll_242 hl (by decide) rfl (fun ls hl => ?_)
              refine lv_aload_n X.1 X.2.1 dX9_cutAll_244 rfl (lv_at hl 3 rfl) ?_
              refine r_gf X inX9_cutAll_X9 hw 0 rfl rfl 4 (by decide) (X.2.2.2.2 (.fieldLink RX9 24 "TestHallModel" "sort" "[I") (by decide +kernel)) rfl rfl dX9_cutAll_245 ?_
              refine lv_iload_n X.1 X.2.1 dX9_cutAll_248 rfl (lv_at hl 4 rfl) ?_
              refine lv_iload_n X.1 X.2.1 dX9_cutAll_249 rfl (lv_at hl 2 rfl) ?_
              refine r_Si (As := [.int x_5]) (rest := [.int x1, .ref (η 2)]) X cN_ok (kX9_isSignOf h) (va_cwS 1 X.2.2.2.2 gX9_cutAll_X9_isSignOf rfl rfl rfl (by decide +kernel) ⟨Nat.le_of_ble_eq_true rfl, Nat.le_of_ble_eq_true rfl⟩) hw rfl hl.1 rfl (Nat.le_of_ble_eq_true rfl) dX9_cutAll_250 (fun r_13 M_12 H locs h hw => ?_)
              obtain ⟨ht_, hf_⟩ := h
              refine lv_if_eq (tgt := 260) X.1 X.2.1 dX9_cutAll_253 (by decide) (fun c_ => ?_) (fun c_ => ?_)
              · have h := ht_ c_
                refine lv_iconst (v := (4 : Int32)) X.1 X.2.1 dX9_cutAll_260 (by decide) ?_
                exact bX9_cutAll_261 X hr hlk hK17 M_12 x1 x2 x_11 (4 : Int32) x1 _ _ _ h hw (lv_sub hl [3, 4, 5, 0] rfl)
              · have h := hf_ c_
                refine lv_iconst (v := (3 : Int32)) X.1 X.2.1 dX9_cutAll_256 (by decide) ?_
                refine lv_goto (tgt := 261) X.1 X.2.1 dX9_cutAll_257 (by decide) ?_
                exact bX9_cutAll_261 X hr hlk hK17 M_12 x1 x2 x_11 (3 : Int32) x1 _ _ _ h hw (lv_sub hl [3, 4, 5, 0] rfl)
            · have h := hf_ c_
              obtain ⟨f_, h⟩ := h
              exact bX9_cutAll_159 X hr hlk hK17 f_ M_9 x1 x2 x2 (0 : Int64) _ _ _ h hw (lv_sub hl [3, 4, 5, 1, 0] rfl)
          · have h := hf_ c_
            obtain ⟨f_, h⟩ := h
            exact bX9_cutAll_70 X hr hlk hK17 f_ M_7 x1 x2 x2 (0 : Int64) _ _ _ h hw (lv_sub hl [3, 4, 5, 1, 0] rfl)
        · have h := hf_ c_
          exact bX9_cutAll_44 X hr hlk hK17 M x1 x2 _ _ _ h hw (lv_sub hl [1, 2, 3] rfl)
def wX9_cutAll (M : Sg) (Q : Sg → Prop) : Prop := (∀ (M_1 : Sg), M_1 = sI M 3 (gI M 2) → (∀ (M_2 : Sg), M_2 = sI M_1 2 (0 : Int32) → (∃ g17_ : Nat, vX9_cutAll_17 Q g17_ M_2 (0 : Int32) (0 : Int32))))
set_option maxHeartbeats 4000000 in
set_option maxRecDepth 100000 in
theorem kX9_cutAll {l : Launch} {D : va_G} {κ : Nat → ClassId} {η : Nat → Nat} {σ : (Nat → Nat) × (Nat → Nat)} {M : Sg} {Q : Sg → Prop} (h : wX9_cutAll M Q) : Kv (cN σ) D (Ky κ) (mw κ η) l yX9_cutAll wsX9_cutAll rmX9_cutAll [.ref (η 0)] M Q := by
  refine ofW_g (Qc := fun A => Qv D (Ky κ) (mw κ η) A Q) (cc := cX9_cutAll) (maxL := 7) (ret := none) (by decide) rfl (Nat.le_of_ble_eq_true rfl) ?_
  intro p e s m args below meth c A ls X hr hlk hw hl
  have hl : lv_has ls 7 [(0, .ref (η 0))] := hl
  refine lv_aload_n X.1 X.2.1 dX9_cutAll_0 rfl (lv_at hl 0 rfl) ?_
  refine lv_aload_n X.1 X.2.1 dX9_cutAll_1 rfl (lv_at hl 0 rfl) ?_
  refine r_gf X inX9_cutAll_X9 hw 0 rfl rfl 2 (by decide) (X.2.2.2.2 (.fieldLink RX9 11 "TestHallModel" "taped" "I") (by decide +kernel)) rfl rfl dX9_cutAll_2 ?_
  refine r_pf (ty := .int) (w' := mw κ η (sI M 3 (gI M 2))) X inX9_cutAll_X9 tyX9_ok nmX9 hw 0 rfl rfl 3 (by decide) (X.2.2.2.2 (.fieldLink RX9 165 "TestHallModel" "size" "I") (by decide +kernel)) rfl rfl (by decide +kernel) rfl rfl (Nat.le_of_ble_eq_true rfl) rfl dX9_cutAll_5 (fun H locs hw => ?_)
  obtain ⟨M_1, eM_1⟩ : ∃ y : Sg, y = sI M 3 (gI M 2) := ⟨_, rfl⟩
  rw [← eM_1] at hw
  have h := h M_1 eM_1
  refine lv_aload_n X.1 X.2.1 dX9_cutAll_8 rfl (lv_at hl 0 rfl) ?_
  refine lv_iconst (v := (0 : Int32)) X.1 X.2.1 dX9_cutAll_9 (by decide) ?_
  refine r_pf (ty := .int) (w' := mw κ η (sI M_1 2 (0 : Int32))) X inX9_cutAll_X9 tyX9_ok nmX9 hw 0 rfl rfl 2 (by decide) (X.2.2.2.2 (.fieldLink RX9 11 "TestHallModel" "taped" "I") (by decide +kernel)) rfl rfl (by decide +kernel) rfl rfl (Nat.le_of_ble_eq_true rfl) rfl dX9_cutAll_10 (fun H locs hw => ?_)
  obtain ⟨M_2, eM_2⟩ : ∃ y : Sg, y = sI M_1 2 (0 : Int32) := ⟨_, rfl⟩
  rw [← eM_2] at hw
  have h := h M_2 eM_2
  refine lv_iconst (v := (0 : Int32)) X.1 X.2.1 dX9_cutAll_13 (by decide) ?_
  refine lv_istore_n (lv' := [(1, .int (0 : Int32)), (0, .ref (η 0))]) X.1 X.2.1 dX9_cutAll_14 rfl hl (by decide) rfl (fun ls hl => ?_)
  refine lv_iconst (v := (0 : Int32)) X.1 X.2.1 dX9_cutAll_15 (by decide) ?_
  refine lv_istore_n (lv' := [(2, .int (0 : Int32)), (1, .int (0 : Int32)), (0, .ref (η 0))]) X.1 X.2.1 dX9_cutAll_16 rfl hl (by decide) rfl (fun ls hl => ?_)
  obtain ⟨f_, h⟩ := h
  exact bX9_cutAll_17 X hr hlk f_ M_2 (0 : Int32) (0 : Int32) _ _ _ h hw (lv_sub hl [2, 1, 0] rfl)

theorem inX9_wrong_X9 : ∀ w ∈ wsX90, w ∈ wsX9_wrong := fun w h => List.mem_cons_of_mem _ (List.mem_append_right _ h)
abbrev rmX9_wrong : Room := { frames := 0, cells := 0, slots := 0, locals := 0 }
def wX9_wrong (M : Sg) (a1 : Int32) (Q : Sg → Prop) : Prop := ((¬ (gI M 8) = 0 → (Q M)) ∧ ((gI M 8) = 0 → (vp_in (gI M 7) 602 ∧ (∀ (M_1 : Sg), M_1 = sI M 8 (a1 + ((16 : Int32) * (gA M 5 (gI M 7).toNatClampNeg))) → (Q M_1)))))
set_option maxHeartbeats 4000000 in
set_option maxRecDepth 100000 in
theorem kX9_wrong {l : Launch} {D : va_G} {κ : Nat → ClassId} {η : Nat → Nat} {σ : (Nat → Nat) × (Nat → Nat)} {M : Sg} {a1 : Int32} {Q : Sg → Prop} (h : wX9_wrong M a1 Q) : Kv (cN σ) D (Ky κ) (mw κ η) l yX9_wrong wsX9_wrong rmX9_wrong [.ref (η 0), .int a1] M Q := by
  refine ofW_g (Qc := fun A => Qv D (Ky κ) (mw κ η) A Q) (cc := cX9_wrong) (maxL := 2) (ret := none) (by decide) rfl (Nat.le_of_ble_eq_true rfl) ?_
  intro p e s m args below meth c A ls X hr hlk hw hl
  have hl : lv_has ls 2 [(0, .ref (η 0)), (1, .int a1)] := hl
  refine lv_aload_n X.1 X.2.1 dX9_wrong_0 rfl (lv_at hl 0 rfl) ?_
  refine r_gf X inX9_wrong_X9 hw 0 rfl rfl 8 (by decide) (X.2.2.2.2 (.fieldLink RX9 186 "TestHallModel" "fault" "I") (by decide +kernel)) rfl rfl dX9_wrong_1 ?_
  obtain ⟨ht_, hf_⟩ := h
  refine lv_if_ne (tgt := 25) X.1 X.2.1 dX9_wrong_4 (by decide) (fun c_ => ?_) (fun c_ => ?_)
  · have h := ht_ c_
    exact r_vret X hr hlk hw h dX9_wrong_25
  · have h := hf_ c_
    refine lv_aload_n X.1 X.2.1 dX9_wrong_7 rfl (lv_at hl 0 rfl) ?_
    refine lv_iload_n X.1 X.2.1 dX9_wrong_8 rfl (lv_at hl 1 rfl) ?_
    refine lv_bipush (v := (16 : Int32)) X.1 X.2.1 dX9_wrong_9 (by decide) ?_
    refine lv_aload_n X.1 X.2.1 dX9_wrong_11 rfl (lv_at hl 0 rfl) ?_
    refine r_gf X inX9_wrong_X9 hw 0 rfl rfl 5 (by decide) (X.2.2.2.2 (.fieldLink RX9 27 "TestHallModel" "place" "[I") (by decide +kernel)) rfl rfl dX9_wrong_12 ?_
    refine lv_aload_n X.1 X.2.1 dX9_wrong_15 rfl (lv_at hl 0 rfl) ?_
    refine r_gf X inX9_wrong_X9 hw 0 rfl rfl 7 (by decide) (X.2.2.2.2 (.fieldLink RX9 183 "TestHallModel" "at" "I") (by decide +kernel)) rfl rfl dX9_wrong_16 ?_
    obtain ⟨hi_, h⟩ := h
    refine r_ial X hw 3 0 rfl rfl hi_ dX9_wrong_19 ?_
    refine lv_imul X.1 X.2.1 dX9_wrong_20 ?_
    refine lv_iadd X.1 X.2.1 dX9_wrong_21 ?_
    refine r_pf (ty := .int) (w' := mw κ η (sI M 8 (a1 + ((16 : Int32) * (gA M 5 (gI M 7).toNatClampNeg))))) X inX9_wrong_X9 tyX9_ok nmX9 hw 0 rfl rfl 8 (by decide) (X.2.2.2.2 (.fieldLink RX9 186 "TestHallModel" "fault" "I") (by decide +kernel)) rfl rfl (by decide +kernel) rfl rfl (Nat.le_of_ble_eq_true rfl) rfl dX9_wrong_22 (fun H locs hw => ?_)
    obtain ⟨M_1, eM_1⟩ : ∃ y : Sg, y = sI M 8 (a1 + ((16 : Int32) * (gA M 5 (gI M 7).toNatClampNeg))) := ⟨_, rfl⟩
    rw [← eM_1] at hw
    have h := h M_1 eM_1
    exact r_vret X hr hlk hw h dX9_wrong_25

theorem inX9_isSign_X9 : ∀ w ∈ wsX90, w ∈ wsX9_isSign := fun w h => List.mem_cons_of_mem _ (List.mem_append_right _ h)
abbrev rmX9_isSign : Room := { frames := 0, cells := 0, slots := 0, locals := 0 }
def wX9_isSign (M : Sg) (a1 : Int32) (Q : Sg → Int32 → Prop) : Prop := ((¬ (gI M 8) = 0 → (Q M (0 : Int32))) ∧ ((gI M 8) = 0 → (vp_in (gI M 7) 602 ∧ ((¬ (gA M 4 (gI M 7).toNatClampNeg) = (3 : Int32) → (Q M (0 : Int32))) ∧ ((gA M 4 (gI M 7).toNatClampNeg) = (3 : Int32) → (vp_in (gI M 7) 602 ∧ ((¬ (lg_cmp (gJ M 6 (gI M 7).toNatClampNeg) (a1.toInt64)) = 0 → (Q M (0 : Int32))) ∧ ((lg_cmp (gJ M 6 (gI M 7).toNatClampNeg) (a1.toInt64)) = 0 → (Q M (1 : Int32))))))))))
set_option maxHeartbeats 4000000 in
set_option maxRecDepth 100000 in
theorem kX9_isSign {l : Launch} {D : va_G} {κ : Nat → ClassId} {η : Nat → Nat} {σ : (Nat → Nat) × (Nat → Nat)} {M : Sg} {a1 : Int32} {Q : Sg → Int32 → Prop} (h : wX9_isSign M a1 Q) : Ki (cN σ) D (Ky κ) (mw κ η) l yX9_isSign wsX9_isSign rmX9_isSign [.ref (η 0), .int a1] M Q := by
  refine ofW_g (Qc := fun A => Qi D (Ky κ) (mw κ η) A Q) (cc := cX9_isSign) (maxL := 2) (ret := (some .boolean)) (by decide) rfl (Nat.le_of_ble_eq_true rfl) ?_
  intro p e s m args below meth c A ls X hr hlk hw hl
  have hl : lv_has ls 2 [(0, .ref (η 0)), (1, .int a1)] := hl
  refine lv_aload_n X.1 X.2.1 dX9_isSign_0 rfl (lv_at hl 0 rfl) ?_
  refine r_gf X inX9_isSign_X9 hw 0 rfl rfl 8 (by decide) (X.2.2.2.2 (.fieldLink RX9 186 "TestHallModel" "fault" "I") (by decide +kernel)) rfl rfl dX9_isSign_1 ?_
  obtain ⟨ht_, hf_⟩ := h
  refine lv_if_ne (tgt := 39) X.1 X.2.1 dX9_isSign_4 (by decide) (fun c_ => ?_) (fun c_ => ?_)
  · have h := ht_ c_
    refine lv_iconst (v := (0 : Int32)) X.1 X.2.1 dX9_isSign_39 (by decide) ?_
    exact r_zret X hr hlk hw rfl h dX9_isSign_40
  · have h := hf_ c_
    refine lv_aload_n X.1 X.2.1 dX9_isSign_7 rfl (lv_at hl 0 rfl) ?_
    refine r_gf X inX9_isSign_X9 hw 0 rfl rfl 4 (by decide) (X.2.2.2.2 (.fieldLink RX9 24 "TestHallModel" "sort" "[I") (by decide +kernel)) rfl rfl dX9_isSign_8 ?_
    refine lv_aload_n X.1 X.2.1 dX9_isSign_11 rfl (lv_at hl 0 rfl) ?_
    refine r_gf X inX9_isSign_X9 hw 0 rfl rfl 7 (by decide) (X.2.2.2.2 (.fieldLink RX9 183 "TestHallModel" "at" "I") (by decide +kernel)) rfl rfl dX9_isSign_12 ?_
    obtain ⟨hi_, h⟩ := h
    refine r_ial X hw 2 0 rfl rfl hi_ dX9_isSign_15 ?_
    refine lv_iconst (v := (3 : Int32)) X.1 X.2.1 dX9_isSign_16 (by decide) ?_
    obtain ⟨ht_, hf_⟩ := h
    refine lv_icmp_ne (tgt := 39) X.1 X.2.1 dX9_isSign_17 (by decide) (fun c_ => ?_) (fun c_ => ?_)
    · have h := ht_ c_
      refine lv_iconst (v := (0 : Int32)) X.1 X.2.1 dX9_isSign_39 (by decide) ?_
      exact r_zret X hr hlk hw rfl h dX9_isSign_40
    · have h := hf_ c_
      refine lv_aload_n X.1 X.2.1 dX9_isSign_20 rfl (lv_at hl 0 rfl) ?_
      refine r_gf X inX9_isSign_X9 hw 0 rfl rfl 6 (by decide) (X.2.2.2.2 (.fieldLink RX9 30 "TestHallModel" "value" "[J") (by decide +kernel)) rfl rfl dX9_isSign_21 ?_
      refine lv_aload_n X.1 X.2.1 dX9_isSign_24 rfl (lv_at hl 0 rfl) ?_
      refine r_gf X inX9_isSign_X9 hw 0 rfl rfl 7 (by decide) (X.2.2.2.2 (.fieldLink RX9 183 "TestHallModel" "at" "I") (by decide +kernel)) rfl rfl dX9_isSign_25 ?_
      obtain ⟨hi_, h⟩ := h
      refine r_lal X hw 4 3 rfl rfl hi_ dX9_isSign_28 ?_
      refine lv_iload_n X.1 X.2.1 dX9_isSign_29 rfl (lv_at hl 1 rfl) ?_
      refine lv_i2l (v := a1.toInt64) X.1 X.2.1 dX9_isSign_30 rfl ?_
      refine W.lcmp X.1 X.2.1 dX9_isSign_31 ?_
      obtain ⟨ht_, hf_⟩ := h
      refine lv_if_ne (tgt := 39) X.1 X.2.1 dX9_isSign_32 (by decide) (fun c_ => ?_) (fun c_ => ?_)
      · have h := ht_ c_
        refine lv_iconst (v := (0 : Int32)) X.1 X.2.1 dX9_isSign_39 (by decide) ?_
        exact r_zret X hr hlk hw rfl h dX9_isSign_40
      · have h := hf_ c_
        refine lv_iconst (v := (1 : Int32)) X.1 X.2.1 dX9_isSign_35 (by decide) ?_
        refine lv_goto (tgt := 40) X.1 X.2.1 dX9_isSign_36 (by decide) ?_
        exact r_zret X hr hlk hw rfl h dX9_isSign_40

theorem inX9_isWord_X9 : ∀ w ∈ wsX90, w ∈ wsX9_isWord := fun w h => List.mem_cons_of_mem _ (List.mem_append_right _ h)
abbrev rmX9_isWord : Room := { frames := 0, cells := 0, slots := 0, locals := 0 }
def wX9_isWord (M : Sg) (a1 : Int32) (Q : Sg → Int32 → Prop) : Prop := ((¬ (gI M 8) = 0 → (Q M (0 : Int32))) ∧ ((gI M 8) = 0 → (vp_in (gI M 7) 602 ∧ ((¬ (gA M 4 (gI M 7).toNatClampNeg) = (1 : Int32) → (Q M (0 : Int32))) ∧ ((gA M 4 (gI M 7).toNatClampNeg) = (1 : Int32) → (vp_in (gI M 7) 602 ∧ (vp_in a1 9 ∧ ((¬ (lg_cmp (gJ M 6 (gI M 7).toNatClampNeg) (gJ M 9 a1.toNatClampNeg)) = 0 → (Q M (0 : Int32))) ∧ ((lg_cmp (gJ M 6 (gI M 7).toNatClampNeg) (gJ M 9 a1.toNatClampNeg)) = 0 → (Q M (1 : Int32)))))))))))
set_option maxHeartbeats 4000000 in
set_option maxRecDepth 100000 in
theorem kX9_isWord {l : Launch} {D : va_G} {κ : Nat → ClassId} {η : Nat → Nat} {σ : (Nat → Nat) × (Nat → Nat)} {M : Sg} {a1 : Int32} {Q : Sg → Int32 → Prop} (h : wX9_isWord M a1 Q) : Ki (cN σ) D (Ky κ) (mw κ η) l yX9_isWord wsX9_isWord rmX9_isWord [.ref (η 0), .int a1] M Q := by
  refine ofW_g (Qc := fun A => Qi D (Ky κ) (mw κ η) A Q) (cc := cX9_isWord) (maxL := 2) (ret := (some .boolean)) (by decide) rfl (Nat.le_of_ble_eq_true rfl) ?_
  intro p e s m args below meth c A ls X hr hlk hw hl
  have hl : lv_has ls 2 [(0, .ref (η 0)), (1, .int a1)] := hl
  refine lv_aload_n X.1 X.2.1 dX9_isWord_0 rfl (lv_at hl 0 rfl) ?_
  refine r_gf X inX9_isWord_X9 hw 0 rfl rfl 8 (by decide) (X.2.2.2.2 (.fieldLink RX9 186 "TestHallModel" "fault" "I") (by decide +kernel)) rfl rfl dX9_isWord_1 ?_
  obtain ⟨ht_, hf_⟩ := h
  refine lv_if_ne (tgt := 43) X.1 X.2.1 dX9_isWord_4 (by decide) (fun c_ => ?_) (fun c_ => ?_)
  · have h := ht_ c_
    refine lv_iconst (v := (0 : Int32)) X.1 X.2.1 dX9_isWord_43 (by decide) ?_
    exact r_zret X hr hlk hw rfl h dX9_isWord_44
  · have h := hf_ c_
    refine lv_aload_n X.1 X.2.1 dX9_isWord_7 rfl (lv_at hl 0 rfl) ?_
    refine r_gf X inX9_isWord_X9 hw 0 rfl rfl 4 (by decide) (X.2.2.2.2 (.fieldLink RX9 24 "TestHallModel" "sort" "[I") (by decide +kernel)) rfl rfl dX9_isWord_8 ?_
    refine lv_aload_n X.1 X.2.1 dX9_isWord_11 rfl (lv_at hl 0 rfl) ?_
    refine r_gf X inX9_isWord_X9 hw 0 rfl rfl 7 (by decide) (X.2.2.2.2 (.fieldLink RX9 183 "TestHallModel" "at" "I") (by decide +kernel)) rfl rfl dX9_isWord_12 ?_
    obtain ⟨hi_, h⟩ := h
    refine r_ial X hw 2 0 rfl rfl hi_ dX9_isWord_15 ?_
    refine lv_iconst (v := (1 : Int32)) X.1 X.2.1 dX9_isWord_16 (by decide) ?_
    obtain ⟨ht_, hf_⟩ := h
    refine lv_icmp_ne (tgt := 43) X.1 X.2.1 dX9_isWord_17 (by decide) (fun c_ => ?_) (fun c_ => ?_)
    · have h := ht_ c_
      refine lv_iconst (v := (0 : Int32)) X.1 X.2.1 dX9_isWord_43 (by decide) ?_
      exact r_zret X hr hlk hw rfl h dX9_isWord_44
    · have h := hf_ c_
      refine lv_aload_n X.1 X.2.1 dX9_isWord_20 rfl (lv_at hl 0 rfl) ?_
      refine r_gf X inX9_isWord_X9 hw 0 rfl rfl 6 (by decide) (X.2.2.2.2 (.fieldLink RX9 30 "TestHallModel" "value" "[J") (by decide +kernel)) rfl rfl dX9_isWord_21 ?_
      refine lv_aload_n X.1 X.2.1 dX9_isWord_24 rfl (lv_at hl 0 rfl) ?_
      refine r_gf X inX9_isWord_X9 hw 0 rfl rfl 7 (by decide) (X.2.2.2.2 (.fieldLink RX9 183 "TestHallModel" "at" "I") (by decide +kernel)) rfl rfl dX9_isWord_25 ?_
      obtain ⟨hi_, h⟩ := h
      refine r_lal X hw 4 3 rfl rfl hi_ dX9_isWord_28 ?_
      refine lv_aload_n X.1 X.2.1 dX9_isWord_29 rfl (lv_at hl 0 rfl) ?_
      refine r_gf X inX9_isWord_X9 hw 0 rfl rfl 9 (by decide) (X.2.2.2.2 (.fieldLink RX9 52 "TestHallModel" "words" "[J") (by decide +kernel)) rfl rfl dX9_isWord_30 ?_
      refine lv_iload_n X.1 X.2.1 dX9_isWord_33 rfl (lv_at hl 1 rfl) ?_
      obtain ⟨hi_, h⟩ := h
      refine r_lal X hw 5 3 rfl rfl hi_ dX9_isWord_34 ?_
      refine W.lcmp X.1 X.2.1 dX9_isWord_35 ?_
      obtain ⟨ht_, hf_⟩ := h
      refine lv_if_ne (tgt := 43) X.1 X.2.1 dX9_isWord_36 (by decide) (fun c_ => ?_) (fun c_ => ?_)
      · have h := ht_ c_
        refine lv_iconst (v := (0 : Int32)) X.1 X.2.1 dX9_isWord_43 (by decide) ?_
        exact r_zret X hr hlk hw rfl h dX9_isWord_44
      · have h := hf_ c_
        refine lv_iconst (v := (1 : Int32)) X.1 X.2.1 dX9_isWord_39 (by decide) ?_
        refine lv_goto (tgt := 44) X.1 X.2.1 dX9_isWord_40 (by decide) ?_
        exact r_zret X hr hlk hw rfl h dX9_isWord_44

theorem inX9_takeSign_X9 : ∀ w ∈ wsX90, w ∈ wsX9_takeSign := fun w h => List.mem_cons_of_mem _ (List.mem_append_right _ h)
abbrev rmX9_takeSign : Room := { frames := 1, cells := 0, slots := 0, locals := 21 }
def wX9_takeSign (M : Sg) (a1 : Int32) (Q : Sg → Prop) : Prop := (wX9_isSign M a1 (fun M_1 r_2 => ((r_2 = 0 → (wX9_wrong M_1 (1 : Int32) (fun M_3 => (Q M_3)))) ∧ (¬ r_2 = 0 → (∀ (M_5 : Sg), M_5 = sI M_1 7 ((gI M_1 7) + (1 : Int32)) → (Q M_5))))))
set_option maxHeartbeats 4000000 in
set_option maxRecDepth 100000 in
theorem kX9_takeSign {l : Launch} {D : va_G} {κ : Nat → ClassId} {η : Nat → Nat} {σ : (Nat → Nat) × (Nat → Nat)} {M : Sg} {a1 : Int32} {Q : Sg → Prop} (h : wX9_takeSign M a1 Q) : Kv (cN σ) D (Ky κ) (mw κ η) l yX9_takeSign wsX9_takeSign rmX9_takeSign [.ref (η 0), .int a1] M Q := by
  refine ofW_g (Qc := fun A => Qv D (Ky κ) (mw κ η) A Q) (cc := cX9_takeSign) (maxL := 2) (ret := none) (by decide) rfl (Nat.le_of_ble_eq_true rfl) ?_
  intro p e s m args below meth c A ls X hr hlk hw hl
  have hl : lv_has ls 2 [(0, .ref (η 0)), (1, .int a1)] := hl
  refine lv_aload_n X.1 X.2.1 dX9_takeSign_0 rfl (lv_at hl 0 rfl) ?_
  refine lv_iload_n X.1 X.2.1 dX9_takeSign_1 rfl (lv_at hl 1 rfl) ?_
  refine r_Vi (As := [.int a1]) (rest := []) X cN_ok (kX9_isSign h) (cwV 1 X.2.2.2.2 gX9_takeSign_X9_isSign rfl rfl rfl (by decide +kernel) ⟨Nat.le_of_ble_eq_true rfl, Nat.le_of_ble_eq_true rfl⟩) hw 0 8 rfl rfl rfl hl.1 rfl (Nat.le_of_ble_eq_true rfl) dX9_takeSign_2 (fun r_2 M_1 H locs h hw => ?_)
  obtain ⟨ht_, hf_⟩ := h
  refine lv_if_eq (tgt := 21) X.1 X.2.1 dX9_takeSign_5 (by decide) (fun c_ => ?_) (fun c_ => ?_)
  · have h := ht_ c_
    refine lv_aload_n X.1 X.2.1 dX9_takeSign_21 rfl (lv_at hl 0 rfl) ?_
    refine lv_iconst (v := (1 : Int32)) X.1 X.2.1 dX9_takeSign_22 (by decide) ?_
    refine r_Vv (As := [.int (1 : Int32)]) (rest := []) X cN_ok (kX9_wrong h) (cwV 1 X.2.2.2.2 gX9_takeSign_X9_wrong rfl rfl rfl (by decide +kernel) ⟨Nat.le_of_ble_eq_true rfl, Nat.le_of_ble_eq_true rfl⟩) hw 0 8 rfl rfl rfl hl.1 rfl (Nat.le_of_ble_eq_true rfl) dX9_takeSign_23 (fun M_3 H locs h hw => ?_)
    exact r_vret X hr hlk hw h dX9_takeSign_26
  · have h := hf_ c_
    refine lv_aload_n X.1 X.2.1 dX9_takeSign_8 rfl (lv_at hl 0 rfl) ?_
    refine lv_dup X.1 X.2.1 dX9_takeSign_9 rfl ?_
    refine r_gf X inX9_takeSign_X9 hw 0 rfl rfl 7 (by decide) (X.2.2.2.2 (.fieldLink RX9 183 "TestHallModel" "at" "I") (by decide +kernel)) rfl rfl dX9_takeSign_10 ?_
    refine lv_iconst (v := (1 : Int32)) X.1 X.2.1 dX9_takeSign_13 (by decide) ?_
    refine lv_iadd X.1 X.2.1 dX9_takeSign_14 ?_
    refine r_pf (ty := .int) (w' := mw κ η (sI M_1 7 ((gI M_1 7) + (1 : Int32)))) X inX9_takeSign_X9 tyX9_ok nmX9 hw 0 rfl rfl 7 (by decide) (X.2.2.2.2 (.fieldLink RX9 183 "TestHallModel" "at" "I") (by decide +kernel)) rfl rfl (by decide +kernel) rfl rfl (Nat.le_of_ble_eq_true rfl) rfl dX9_takeSign_15 (fun H locs hw => ?_)
    obtain ⟨M_5, eM_5⟩ : ∃ y : Sg, y = sI M_1 7 ((gI M_1 7) + (1 : Int32)) := ⟨_, rfl⟩
    rw [← eM_5] at hw
    have h := h M_5 eM_5
    refine lv_goto (tgt := 26) X.1 X.2.1 dX9_takeSign_18 (by decide) ?_
    exact r_vret X hr hlk hw h dX9_takeSign_26

theorem inX9_hasSign_X9 : ∀ w ∈ wsX90, w ∈ wsX9_hasSign := fun w h => List.mem_cons_of_mem _ (List.mem_append_right _ h)
abbrev rmX9_hasSign : Room := { frames := 1, cells := 0, slots := 0, locals := 21 }
def vX9_hasSign_20 (Q : Sg → Int32 → Prop) (M : Sg) (x2 : Int32) (s0 : Int32) (s1 : Int32) : Prop := (∀ (M_1 : Sg), M_1 = sI M 7 (s1 + s0) → (narrow .boolean (.int x2) = .int x2 ∧ Q M_1 x2))
set_option maxHeartbeats 4000000 in
set_option maxRecDepth 100000 in
theorem bX9_hasSign_20 {p : Program} {l : Launch} {e : Env} {s : State} {m : MethodId} {args : Array Value} {below : List Frame} {meth : Method} {c : Code} {D : va_G} {κ : Nat → ClassId} {η : Nat → Nat} {σ : (Nat → Nat) × (Nat → Nat)} {A : Nat → Prop} {Q : Sg → Int32 → Prop} (X : CallFix p m c cX9_hasSign 3 s args wsX9_hasSign RX9) (hr : meth.sig.returnType = (some .boolean)) (hlk : meth.locks = false) : ∀ (M : Sg) (x2 : Int32) (s0 : Int32) (s1 : Int32) (H : Heap) (locs : List Loc) (ls : Array Slot), vX9_hasSign_20 Q M x2 s0 s1 → Wd (cN σ) D (Ky κ) A s (mw κ η M) H locs → lv_has ls 3 [(2, .int x2)] → W p l e rmX9_hasSign s m args below meth c H locs 0 0 (MQ below (Qi D (Ky κ) (mw κ η) A Q) args s 0 0 A) (F0 m 20 ls [.int s0, .int s1, .ref (η 0)]) := by
  intro M x2 s0 s1 H locs ls h hw hl
  refine lv_iadd X.1 X.2.1 dX9_hasSign_20 ?_
  refine r_pf (ty := .int) (w' := mw κ η (sI M 7 (s1 + s0))) X inX9_hasSign_X9 tyX9_ok nmX9 hw 0 rfl rfl 7 (by decide) (X.2.2.2.2 (.fieldLink RX9 183 "TestHallModel" "at" "I") (by decide +kernel)) rfl rfl (by decide +kernel) rfl rfl (Nat.le_of_ble_eq_true rfl) rfl dX9_hasSign_21 (fun H locs hw => ?_)
  obtain ⟨M_1, eM_1⟩ : ∃ y : Sg, y = sI M 7 (s1 + s0) := ⟨_, rfl⟩
  rw [← eM_1] at hw
  have h := h M_1 eM_1
  refine lv_iload_n X.1 X.2.1 dX9_hasSign_24 rfl (lv_at hl 0 rfl) ?_
  obtain ⟨hn_, h⟩ := h
  exact r_zret X hr hlk hw hn_ h dX9_hasSign_25
def wX9_hasSign (M : Sg) (a1 : Int32) (Q : Sg → Int32 → Prop) : Prop := (wX9_isSign M a1 (fun M_1 r_2 => ((r_2 = 0 → (vX9_hasSign_20 Q M_1 r_2 (0 : Int32) (gI M_1 7))) ∧ (¬ r_2 = 0 → (vX9_hasSign_20 Q M_1 r_2 (1 : Int32) (gI M_1 7))))))
set_option maxHeartbeats 4000000 in
set_option maxRecDepth 100000 in
theorem kX9_hasSign {l : Launch} {D : va_G} {κ : Nat → ClassId} {η : Nat → Nat} {σ : (Nat → Nat) × (Nat → Nat)} {M : Sg} {a1 : Int32} {Q : Sg → Int32 → Prop} (h : wX9_hasSign M a1 Q) : Ki (cN σ) D (Ky κ) (mw κ η) l yX9_hasSign wsX9_hasSign rmX9_hasSign [.ref (η 0), .int a1] M Q := by
  refine ofW_g (Qc := fun A => Qi D (Ky κ) (mw κ η) A Q) (cc := cX9_hasSign) (maxL := 3) (ret := (some .boolean)) (by decide) rfl (Nat.le_of_ble_eq_true rfl) ?_
  intro p e s m args below meth c A ls X hr hlk hw hl
  have hl : lv_has ls 3 [(0, .ref (η 0)), (1, .int a1)] := hl
  refine lv_aload_n X.1 X.2.1 dX9_hasSign_0 rfl (lv_at hl 0 rfl) ?_
  refine lv_iload_n X.1 X.2.1 dX9_hasSign_1 rfl (lv_at hl 1 rfl) ?_
  refine r_Vi (As := [.int a1]) (rest := []) X cN_ok (kX9_isSign h) (cwV 1 X.2.2.2.2 gX9_hasSign_X9_isSign rfl rfl rfl (by decide +kernel) ⟨Nat.le_of_ble_eq_true rfl, Nat.le_of_ble_eq_true rfl⟩) hw 0 8 rfl rfl rfl hl.1 rfl (Nat.le_of_ble_eq_true rfl) dX9_hasSign_2 (fun r_2 M_1 H locs h hw => ?_)
  refine lv_istore_n (lv' := [(2, .int r_2), (0, .ref (η 0)), (1, .int a1)]) X.1 X.2.1 dX9_hasSign_5 rfl hl (by decide) rfl (fun ls hl => ?_)
  refine lv_aload_n X.1 X.2.1 dX9_hasSign_6 rfl (lv_at hl 1 rfl) ?_
  refine lv_dup X.1 X.2.1 dX9_hasSign_7 rfl ?_
  refine r_gf X inX9_hasSign_X9 hw 0 rfl rfl 7 (by decide) (X.2.2.2.2 (.fieldLink RX9 183 "TestHallModel" "at" "I") (by decide +kernel)) rfl rfl dX9_hasSign_8 ?_
  refine lv_iload_n X.1 X.2.1 dX9_hasSign_11 rfl (lv_at hl 0 rfl) ?_
  obtain ⟨ht_, hf_⟩ := h
  refine lv_if_eq (tgt := 19) X.1 X.2.1 dX9_hasSign_12 (by decide) (fun c_ => ?_) (fun c_ => ?_)
  · have h := ht_ c_
    refine lv_iconst (v := (0 : Int32)) X.1 X.2.1 dX9_hasSign_19 (by decide) ?_
    exact bX9_hasSign_20 X hr hlk M_1 r_2 (0 : Int32) (gI M_1 7) _ _ _ h hw (lv_sub hl [0] rfl)
  · have h := hf_ c_
    refine lv_iconst (v := (1 : Int32)) X.1 X.2.1 dX9_hasSign_15 (by decide) ?_
    refine lv_goto (tgt := 20) X.1 X.2.1 dX9_hasSign_16 (by decide) ?_
    exact bX9_hasSign_20 X hr hlk M_1 r_2 (1 : Int32) (gI M_1 7) _ _ _ h hw (lv_sub hl [0] rfl)

theorem inX9_hasWord_X9 : ∀ w ∈ wsX90, w ∈ wsX9_hasWord := fun w h => List.mem_cons_of_mem _ (List.mem_append_right _ h)
abbrev rmX9_hasWord : Room := { frames := 1, cells := 0, slots := 0, locals := 21 }
def vX9_hasWord_20 (Q : Sg → Int32 → Prop) (M : Sg) (x2 : Int32) (s0 : Int32) (s1 : Int32) : Prop := (∀ (M_1 : Sg), M_1 = sI M 7 (s1 + s0) → (narrow .boolean (.int x2) = .int x2 ∧ Q M_1 x2))
set_option maxHeartbeats 4000000 in
set_option maxRecDepth 100000 in
theorem bX9_hasWord_20 {p : Program} {l : Launch} {e : Env} {s : State} {m : MethodId} {args : Array Value} {below : List Frame} {meth : Method} {c : Code} {D : va_G} {κ : Nat → ClassId} {η : Nat → Nat} {σ : (Nat → Nat) × (Nat → Nat)} {A : Nat → Prop} {Q : Sg → Int32 → Prop} (X : CallFix p m c cX9_hasWord 3 s args wsX9_hasWord RX9) (hr : meth.sig.returnType = (some .boolean)) (hlk : meth.locks = false) : ∀ (M : Sg) (x2 : Int32) (s0 : Int32) (s1 : Int32) (H : Heap) (locs : List Loc) (ls : Array Slot), vX9_hasWord_20 Q M x2 s0 s1 → Wd (cN σ) D (Ky κ) A s (mw κ η M) H locs → lv_has ls 3 [(2, .int x2)] → W p l e rmX9_hasWord s m args below meth c H locs 0 0 (MQ below (Qi D (Ky κ) (mw κ η) A Q) args s 0 0 A) (F0 m 20 ls [.int s0, .int s1, .ref (η 0)]) := by
  intro M x2 s0 s1 H locs ls h hw hl
  refine lv_iadd X.1 X.2.1 dX9_hasWord_20 ?_
  refine r_pf (ty := .int) (w' := mw κ η (sI M 7 (s1 + s0))) X inX9_hasWord_X9 tyX9_ok nmX9 hw 0 rfl rfl 7 (by decide) (X.2.2.2.2 (.fieldLink RX9 183 "TestHallModel" "at" "I") (by decide +kernel)) rfl rfl (by decide +kernel) rfl rfl (Nat.le_of_ble_eq_true rfl) rfl dX9_hasWord_21 (fun H locs hw => ?_)
  obtain ⟨M_1, eM_1⟩ : ∃ y : Sg, y = sI M 7 (s1 + s0) := ⟨_, rfl⟩
  rw [← eM_1] at hw
  have h := h M_1 eM_1
  refine lv_iload_n X.1 X.2.1 dX9_hasWord_24 rfl (lv_at hl 0 rfl) ?_
  obtain ⟨hn_, h⟩ := h
  exact r_zret X hr hlk hw hn_ h dX9_hasWord_25
def wX9_hasWord (M : Sg) (a1 : Int32) (Q : Sg → Int32 → Prop) : Prop := (wX9_isWord M a1 (fun M_1 r_2 => ((r_2 = 0 → (vX9_hasWord_20 Q M_1 r_2 (0 : Int32) (gI M_1 7))) ∧ (¬ r_2 = 0 → (vX9_hasWord_20 Q M_1 r_2 (1 : Int32) (gI M_1 7))))))
set_option maxHeartbeats 4000000 in
set_option maxRecDepth 100000 in
theorem kX9_hasWord {l : Launch} {D : va_G} {κ : Nat → ClassId} {η : Nat → Nat} {σ : (Nat → Nat) × (Nat → Nat)} {M : Sg} {a1 : Int32} {Q : Sg → Int32 → Prop} (h : wX9_hasWord M a1 Q) : Ki (cN σ) D (Ky κ) (mw κ η) l yX9_hasWord wsX9_hasWord rmX9_hasWord [.ref (η 0), .int a1] M Q := by
  refine ofW_g (Qc := fun A => Qi D (Ky κ) (mw κ η) A Q) (cc := cX9_hasWord) (maxL := 3) (ret := (some .boolean)) (by decide) rfl (Nat.le_of_ble_eq_true rfl) ?_
  intro p e s m args below meth c A ls X hr hlk hw hl
  have hl : lv_has ls 3 [(0, .ref (η 0)), (1, .int a1)] := hl
  refine lv_aload_n X.1 X.2.1 dX9_hasWord_0 rfl (lv_at hl 0 rfl) ?_
  refine lv_iload_n X.1 X.2.1 dX9_hasWord_1 rfl (lv_at hl 1 rfl) ?_
  refine r_Vi (As := [.int a1]) (rest := []) X cN_ok (kX9_isWord h) (cwV 1 X.2.2.2.2 gX9_hasWord_X9_isWord rfl rfl rfl (by decide +kernel) ⟨Nat.le_of_ble_eq_true rfl, Nat.le_of_ble_eq_true rfl⟩) hw 0 8 rfl rfl rfl hl.1 rfl (Nat.le_of_ble_eq_true rfl) dX9_hasWord_2 (fun r_2 M_1 H locs h hw => ?_)
  refine lv_istore_n (lv' := [(2, .int r_2), (0, .ref (η 0)), (1, .int a1)]) X.1 X.2.1 dX9_hasWord_5 rfl hl (by decide) rfl (fun ls hl => ?_)
  refine lv_aload_n X.1 X.2.1 dX9_hasWord_6 rfl (lv_at hl 1 rfl) ?_
  refine lv_dup X.1 X.2.1 dX9_hasWord_7 rfl ?_
  refine r_gf X inX9_hasWord_X9 hw 0 rfl rfl 7 (by decide) (X.2.2.2.2 (.fieldLink RX9 183 "TestHallModel" "at" "I") (by decide +kernel)) rfl rfl dX9_hasWord_8 ?_
  refine lv_iload_n X.1 X.2.1 dX9_hasWord_11 rfl (lv_at hl 0 rfl) ?_
  obtain ⟨ht_, hf_⟩ := h
  refine lv_if_eq (tgt := 19) X.1 X.2.1 dX9_hasWord_12 (by decide) (fun c_ => ?_) (fun c_ => ?_)
  · have h := ht_ c_
    refine lv_iconst (v := (0 : Int32)) X.1 X.2.1 dX9_hasWord_19 (by decide) ?_
    exact bX9_hasWord_20 X hr hlk M_1 r_2 (0 : Int32) (gI M_1 7) _ _ _ h hw (lv_sub hl [0] rfl)
  · have h := hf_ c_
    refine lv_iconst (v := (1 : Int32)) X.1 X.2.1 dX9_hasWord_15 (by decide) ?_
    refine lv_goto (tgt := 20) X.1 X.2.1 dX9_hasWord_16 (by decide) ?_
    exact bX9_hasWord_20 X hr hlk M_1 r_2 (1 : Int32) (gI M_1 7) _ _ _ h hw (lv_sub hl [0] rfl)

abbrev rmX9_takeWord : Room := { frames := 2, cells := 0, slots := 0, locals := 43 }
def wX9_takeWord (M : Sg) (a1 : Int32) (Q : Sg → Prop) : Prop := (wX9_hasWord M a1 (fun M_1 r_2 => ((¬ r_2 = 0 → (Q M_1)) ∧ (r_2 = 0 → (wX9_wrong M_1 (1 : Int32) (fun M_3 => (Q M_3)))))))
set_option maxHeartbeats 4000000 in
set_option maxRecDepth 100000 in
theorem kX9_takeWord {l : Launch} {D : va_G} {κ : Nat → ClassId} {η : Nat → Nat} {σ : (Nat → Nat) × (Nat → Nat)} {M : Sg} {a1 : Int32} {Q : Sg → Prop} (h : wX9_takeWord M a1 Q) : Kv (cN σ) D (Ky κ) (mw κ η) l yX9_takeWord wsX9_takeWord rmX9_takeWord [.ref (η 0), .int a1] M Q := by
  refine ofW_g (Qc := fun A => Qv D (Ky κ) (mw κ η) A Q) (cc := cX9_takeWord) (maxL := 2) (ret := none) (by decide) rfl (Nat.le_of_ble_eq_true rfl) ?_
  intro p e s m args below meth c A ls X hr hlk hw hl
  have hl : lv_has ls 2 [(0, .ref (η 0)), (1, .int a1)] := hl
  refine lv_aload_n X.1 X.2.1 dX9_takeWord_0 rfl (lv_at hl 0 rfl) ?_
  refine lv_iload_n X.1 X.2.1 dX9_takeWord_1 rfl (lv_at hl 1 rfl) ?_
  refine r_Vi (As := [.int a1]) (rest := []) X cN_ok (kX9_hasWord h) (cwV 1 X.2.2.2.2 gX9_takeWord_X9_hasWord rfl rfl rfl (by decide +kernel) ⟨Nat.le_of_ble_eq_true rfl, Nat.le_of_ble_eq_true rfl⟩) hw 0 8 rfl rfl rfl hl.1 rfl (Nat.le_of_ble_eq_true rfl) dX9_takeWord_2 (fun r_2 M_1 H locs h hw => ?_)
  obtain ⟨ht_, hf_⟩ := h
  refine lv_if_ne (tgt := 13) X.1 X.2.1 dX9_takeWord_5 (by decide) (fun c_ => ?_) (fun c_ => ?_)
  · have h := ht_ c_
    exact r_vret X hr hlk hw h dX9_takeWord_13
  · have h := hf_ c_
    refine lv_aload_n X.1 X.2.1 dX9_takeWord_8 rfl (lv_at hl 0 rfl) ?_
    refine lv_iconst (v := (1 : Int32)) X.1 X.2.1 dX9_takeWord_9 (by decide) ?_
    refine r_Vv (As := [.int (1 : Int32)]) (rest := []) X cN_ok (kX9_wrong h) (cwV 1 X.2.2.2.2 gX9_takeWord_X9_wrong rfl rfl rfl (by decide +kernel) ⟨Nat.le_of_ble_eq_true rfl, Nat.le_of_ble_eq_true rfl⟩) hw 0 8 rfl rfl rfl hl.1 rfl (Nat.le_of_ble_eq_true rfl) dX9_takeWord_10 (fun M_3 H locs h hw => ?_)
    exact r_vret X hr hlk hw h dX9_takeWord_13

theorem inX9_emit_X9 : ∀ w ∈ wsX90, w ∈ wsX9_emit := fun w h => List.mem_cons_of_mem _ (List.mem_append_right _ h)
abbrev rmX9_emit : Room := { frames := 0, cells := 0, slots := 0, locals := 0 }
def wX9_emit (M : Sg) (a1 : Int32) (a2 : Int32) (Q : Sg → Prop) : Prop := (vp_in (((660 : Int32) * (gI M 16)) + (gI M 17)) 1320 ∧ (∀ (M_1 : Sg), M_1 = sA M 13 (((660 : Int32) * (gI M 16)) + (gI M 17)).toNatClampNeg a1 → (vp_in (((660 : Int32) * (gI M_1 16)) + (gI M_1 17)) 1320 ∧ (∀ (M_2 : Sg), M_2 = sA M_1 14 (((660 : Int32) * (gI M_1 16)) + (gI M_1 17)).toNatClampNeg a2 → (∀ (M_3 : Sg), M_3 = sI M_2 17 ((gI M_2 17) + (1 : Int32)) → (Q M_3))))))
set_option maxHeartbeats 4000000 in
set_option maxRecDepth 100000 in
theorem kX9_emit {l : Launch} {D : va_G} {κ : Nat → ClassId} {η : Nat → Nat} {σ : (Nat → Nat) × (Nat → Nat)} {M : Sg} {a1 : Int32} {a2 : Int32} {Q : Sg → Prop} (h : wX9_emit M a1 a2 Q) : Kv (cN σ) D (Ky κ) (mw κ η) l yX9_emit wsX9_emit rmX9_emit [.ref (η 0), .int a1, .int a2] M Q := by
  refine ofW_g (Qc := fun A => Qv D (Ky κ) (mw κ η) A Q) (cc := cX9_emit) (maxL := 3) (ret := none) (by decide) rfl (Nat.le_of_ble_eq_true rfl) ?_
  intro p e s m args below meth c A ls X hr hlk hw hl
  have hl : lv_has ls 3 [(0, .ref (η 0)), (1, .int a1), (2, .int a2)] := hl
  refine lv_aload_n X.1 X.2.1 dX9_emit_0 rfl (lv_at hl 0 rfl) ?_
  refine r_gf X inX9_emit_X9 hw 0 rfl rfl 13 (by decide) (X.2.2.2.2 (.fieldLink RX9 64 "TestHallModel" "op" "[I") (by decide +kernel)) rfl rfl dX9_emit_1 ?_
  refine lv_sipush (v := (660 : Int32)) X.1 X.2.1 dX9_emit_4 (by decide) ?_
  refine lv_aload_n X.1 X.2.1 dX9_emit_7 rfl (lv_at hl 0 rfl) ?_
  refine r_gf X inX9_emit_X9 hw 0 rfl rfl 16 (by decide) (X.2.2.2.2 (.fieldLink RX9 202 "TestHallModel" "next" "I") (by decide +kernel)) rfl rfl dX9_emit_8 ?_
  refine lv_imul X.1 X.2.1 dX9_emit_11 ?_
  refine lv_aload_n X.1 X.2.1 dX9_emit_12 rfl (lv_at hl 0 rfl) ?_
  refine r_gf X inX9_emit_X9 hw 0 rfl rfl 17 (by decide) (X.2.2.2.2 (.fieldLink RX9 205 "TestHallModel" "codes" "I") (by decide +kernel)) rfl rfl dX9_emit_13 ?_
  refine lv_iadd X.1 X.2.1 dX9_emit_16 ?_
  refine lv_iload_n X.1 X.2.1 dX9_emit_17 rfl (lv_at hl 1 rfl) ?_
  obtain ⟨hi_, h⟩ := h
  refine r_ias (w' := mw κ η (sA M 13 (((660 : Int32) * (gI M 16)) + (gI M 17)).toNatClampNeg a1)) X hw 9 0 rfl rfl hi_ rfl dX9_emit_18 (fun H locs hw => ?_)
  obtain ⟨M_1, eM_1⟩ : ∃ y : Sg, y = sA M 13 (((660 : Int32) * (gI M 16)) + (gI M 17)).toNatClampNeg a1 := ⟨_, rfl⟩
  rw [← eM_1] at hw
  have h := h M_1 eM_1
  refine lv_aload_n X.1 X.2.1 dX9_emit_19 rfl (lv_at hl 0 rfl) ?_
  refine r_gf X inX9_emit_X9 hw 0 rfl rfl 14 (by decide) (X.2.2.2.2 (.fieldLink RX9 67 "TestHallModel" "one" "[I") (by decide +kernel)) rfl rfl dX9_emit_20 ?_
  refine lv_sipush (v := (660 : Int32)) X.1 X.2.1 dX9_emit_23 (by decide) ?_
  refine lv_aload_n X.1 X.2.1 dX9_emit_26 rfl (lv_at hl 0 rfl) ?_
  refine r_gf X inX9_emit_X9 hw 0 rfl rfl 16 (by decide) (X.2.2.2.2 (.fieldLink RX9 202 "TestHallModel" "next" "I") (by decide +kernel)) rfl rfl dX9_emit_27 ?_
  refine lv_imul X.1 X.2.1 dX9_emit_30 ?_
  refine lv_aload_n X.1 X.2.1 dX9_emit_31 rfl (lv_at hl 0 rfl) ?_
  refine r_gf X inX9_emit_X9 hw 0 rfl rfl 17 (by decide) (X.2.2.2.2 (.fieldLink RX9 205 "TestHallModel" "codes" "I") (by decide +kernel)) rfl rfl dX9_emit_32 ?_
  refine lv_iadd X.1 X.2.1 dX9_emit_35 ?_
  refine lv_iload_n X.1 X.2.1 dX9_emit_36 rfl (lv_at hl 2 rfl) ?_
  obtain ⟨hi_, h⟩ := h
  refine r_ias (w' := mw κ η (sA M_1 14 (((660 : Int32) * (gI M_1 16)) + (gI M_1 17)).toNatClampNeg a2)) X hw 10 0 rfl rfl hi_ rfl dX9_emit_37 (fun H locs hw => ?_)
  obtain ⟨M_2, eM_2⟩ : ∃ y : Sg, y = sA M_1 14 (((660 : Int32) * (gI M_1 16)) + (gI M_1 17)).toNatClampNeg a2 := ⟨_, rfl⟩
  rw [← eM_2] at hw
  have h := h M_2 eM_2
  refine lv_aload_n X.1 X.2.1 dX9_emit_38 rfl (lv_at hl 0 rfl) ?_
  refine lv_dup X.1 X.2.1 dX9_emit_39 rfl ?_
  refine r_gf X inX9_emit_X9 hw 0 rfl rfl 17 (by decide) (X.2.2.2.2 (.fieldLink RX9 205 "TestHallModel" "codes" "I") (by decide +kernel)) rfl rfl dX9_emit_40 ?_
  refine lv_iconst (v := (1 : Int32)) X.1 X.2.1 dX9_emit_43 (by decide) ?_
  refine lv_iadd X.1 X.2.1 dX9_emit_44 ?_
  refine r_pf (ty := .int) (w' := mw κ η (sI M_2 17 ((gI M_2 17) + (1 : Int32)))) X inX9_emit_X9 tyX9_ok nmX9 hw 0 rfl rfl 17 (by decide) (X.2.2.2.2 (.fieldLink RX9 205 "TestHallModel" "codes" "I") (by decide +kernel)) rfl rfl (by decide +kernel) rfl rfl (Nat.le_of_ble_eq_true rfl) rfl dX9_emit_45 (fun H locs hw => ?_)
  obtain ⟨M_3, eM_3⟩ : ∃ y : Sg, y = sI M_2 17 ((gI M_2 17) + (1 : Int32)) := ⟨_, rfl⟩
  rw [← eM_3] at hw
  have h := h M_3 eM_3
  exact r_vret X hr hlk hw h dX9_emit_48

theorem inX9_goesOnBehind_X9 : ∀ w ∈ wsX90, w ∈ wsX9_goesOnBehind := fun w h => List.mem_cons_of_mem _ (List.mem_append_right _ h)
abbrev rmX9_goesOnBehind : Room := { frames := 2, cells := 0, slots := 0, locals := 42 }
def vX9_goesOnBehind_83 (Q : Sg → Int32 → Prop) (M : Sg) (s0 : Int32) (s1 : Int32) : Prop := (vp_in s1 7 ∧ (∀ (M_1 : Sg), M_1 = sA M 19 s1.toNatClampNeg s0 → (∀ (M_2 : Sg), M_2 = sI M_1 7 ((gI M_1 7) + (1 : Int32)) → (Q M_2 (1 : Int32)))))
set_option maxHeartbeats 4000000 in
set_option maxRecDepth 100000 in
theorem bX9_goesOnBehind_83 {p : Program} {l : Launch} {e : Env} {s : State} {m : MethodId} {args : Array Value} {below : List Frame} {meth : Method} {c : Code} {D : va_G} {κ : Nat → ClassId} {η : Nat → Nat} {σ : (Nat → Nat) × (Nat → Nat)} {A : Nat → Prop} {Q : Sg → Int32 → Prop} (X : CallFix p m c cX9_goesOnBehind 1 s args wsX9_goesOnBehind RX9) (hr : meth.sig.returnType = (some .boolean)) (hlk : meth.locks = false) : ∀ (M : Sg) (s0 : Int32) (s1 : Int32) (H : Heap) (locs : List Loc) (ls : Array Slot), vX9_goesOnBehind_83 Q M s0 s1 → Wd (cN σ) D (Ky κ) A s (mw κ η M) H locs → lv_has ls 1 [(0, .ref (η 0))] → W p l e rmX9_goesOnBehind s m args below meth c H locs 0 0 (MQ below (Qi D (Ky κ) (mw κ η) A Q) args s 0 0 A) (F0 m 83 ls [.int s0, .int s1, .ref (η 11)]) := by
  intro M s0 s1 H locs ls h hw hl
  obtain ⟨hi_, h⟩ := h
  refine r_ias (w' := mw κ η (sA M 19 s1.toNatClampNeg s0)) X hw 11 0 rfl rfl hi_ rfl dX9_goesOnBehind_83 (fun H locs hw => ?_)
  obtain ⟨M_1, eM_1⟩ : ∃ y : Sg, y = sA M 19 s1.toNatClampNeg s0 := ⟨_, rfl⟩
  rw [← eM_1] at hw
  have h := h M_1 eM_1
  refine lv_aload_n X.1 X.2.1 dX9_goesOnBehind_84 rfl (lv_at hl 0 rfl) ?_
  refine lv_dup X.1 X.2.1 dX9_goesOnBehind_85 rfl ?_
  refine r_gf X inX9_goesOnBehind_X9 hw 0 rfl rfl 7 (by decide) (X.2.2.2.2 (.fieldLink RX9 183 "TestHallModel" "at" "I") (by decide +kernel)) rfl rfl dX9_goesOnBehind_86 ?_
  refine lv_iconst (v := (1 : Int32)) X.1 X.2.1 dX9_goesOnBehind_89 (by decide) ?_
  refine lv_iadd X.1 X.2.1 dX9_goesOnBehind_90 ?_
  refine r_pf (ty := .int) (w' := mw κ η (sI M_1 7 ((gI M_1 7) + (1 : Int32)))) X inX9_goesOnBehind_X9 tyX9_ok nmX9 hw 0 rfl rfl 7 (by decide) (X.2.2.2.2 (.fieldLink RX9 183 "TestHallModel" "at" "I") (by decide +kernel)) rfl rfl (by decide +kernel) rfl rfl (Nat.le_of_ble_eq_true rfl) rfl dX9_goesOnBehind_91 (fun H locs hw => ?_)
  obtain ⟨M_2, eM_2⟩ : ∃ y : Sg, y = sI M_1 7 ((gI M_1 7) + (1 : Int32)) := ⟨_, rfl⟩
  rw [← eM_2] at hw
  have h := h M_2 eM_2
  refine lv_iconst (v := (1 : Int32)) X.1 X.2.1 dX9_goesOnBehind_94 (by decide) ?_
  exact r_zret X hr hlk hw rfl h dX9_goesOnBehind_95
def vX9_goesOnBehind_61 (Q : Sg → Int32 → Prop) (M : Sg) : Prop := (wX9_isSign M (43 : Int32) (fun M_1 r_2 => ((r_2 = 0 → (vX9_goesOnBehind_83 Q M_1 (4 : Int32) (gI M 18))) ∧ (¬ r_2 = 0 → (vX9_goesOnBehind_83 Q M_1 (3 : Int32) (gI M 18))))))
set_option maxHeartbeats 4000000 in
set_option maxRecDepth 100000 in
theorem bX9_goesOnBehind_61 {p : Program} {l : Launch} {e : Env} {s : State} {m : MethodId} {args : Array Value} {below : List Frame} {meth : Method} {c : Code} {D : va_G} {κ : Nat → ClassId} {η : Nat → Nat} {σ : (Nat → Nat) × (Nat → Nat)} {A : Nat → Prop} {Q : Sg → Int32 → Prop} (X : CallFix p m c cX9_goesOnBehind 1 s args wsX9_goesOnBehind RX9) (hr : meth.sig.returnType = (some .boolean)) (hlk : meth.locks = false) : ∀ (M : Sg) (H : Heap) (locs : List Loc) (ls : Array Slot), vX9_goesOnBehind_61 Q M → Wd (cN σ) D (Ky κ) A s (mw κ η M) H locs → lv_has ls 1 [(0, .ref (η 0))] → W p l e rmX9_goesOnBehind s m args below meth c H locs 0 0 (MQ below (Qi D (Ky κ) (mw κ η) A Q) args s 0 0 A) (F0 m 61 ls []) := by
  intro M H locs ls h hw hl
  refine lv_aload_n X.1 X.2.1 dX9_goesOnBehind_61 rfl (lv_at hl 0 rfl) ?_
  refine r_gf X inX9_goesOnBehind_X9 hw 0 rfl rfl 19 (by decide) (X.2.2.2.2 (.fieldLink RX9 70 "TestHallModel" "sumWaits" "[I") (by decide +kernel)) rfl rfl dX9_goesOnBehind_62 ?_
  refine lv_aload_n X.1 X.2.1 dX9_goesOnBehind_65 rfl (lv_at hl 0 rfl) ?_
  refine r_gf X inX9_goesOnBehind_X9 hw 0 rfl rfl 18 (by decide) (X.2.2.2.2 (.fieldLink RX9 222 "TestHallModel" "deep" "I") (by decide +kernel)) rfl rfl dX9_goesOnBehind_66 ?_
  refine lv_aload_n X.1 X.2.1 dX9_goesOnBehind_69 rfl (lv_at hl 0 rfl) ?_
  refine lv_bipush (v := (43 : Int32)) X.1 X.2.1 dX9_goesOnBehind_70 (by decide) ?_
  refine r_Vi (As := [.int (43 : Int32)]) (rest := [.int (gI M 18), .ref (η 11)]) X cN_ok (kX9_isSign h) (cwV 1 X.2.2.2.2 gX9_goesOnBehind_X9_isSign rfl rfl rfl (by decide +kernel) ⟨Nat.le_of_ble_eq_true rfl, Nat.le_of_ble_eq_true rfl⟩) hw 0 8 rfl rfl rfl hl.1 rfl (Nat.le_of_ble_eq_true rfl) dX9_goesOnBehind_72 (fun r_2 M_1 H locs h hw => ?_)
  obtain ⟨ht_, hf_⟩ := h
  refine lv_if_eq (tgt := 82) X.1 X.2.1 dX9_goesOnBehind_75 (by decide) (fun c_ => ?_) (fun c_ => ?_)
  · have h := ht_ c_
    refine lv_iconst (v := (4 : Int32)) X.1 X.2.1 dX9_goesOnBehind_82 (by decide) ?_
    exact bX9_goesOnBehind_83 X hr hlk M_1 (4 : Int32) (gI M 18) _ _ _ h hw (lv_sub hl [0] rfl)
  · have h := hf_ c_
    refine lv_iconst (v := (3 : Int32)) X.1 X.2.1 dX9_goesOnBehind_78 (by decide) ?_
    refine lv_goto (tgt := 83) X.1 X.2.1 dX9_goesOnBehind_79 (by decide) ?_
    exact bX9_goesOnBehind_83 X hr hlk M_1 (3 : Int32) (gI M 18) _ _ _ h hw (lv_sub hl [0] rfl)
def vX9_goesOnBehind_176 (Q : Sg → Int32 → Prop) (M : Sg) (s0 : Int32) (s1 : Int32) : Prop := (vp_in s1 7 ∧ (∀ (M_1 : Sg), M_1 = sA M 20 s1.toNatClampNeg s0 → (∀ (M_2 : Sg), M_2 = sI M_1 7 ((gI M_1 7) + (1 : Int32)) → (Q M_2 (1 : Int32)))))
set_option maxHeartbeats 4000000 in
set_option maxRecDepth 100000 in
theorem bX9_goesOnBehind_176 {p : Program} {l : Launch} {e : Env} {s : State} {m : MethodId} {args : Array Value} {below : List Frame} {meth : Method} {c : Code} {D : va_G} {κ : Nat → ClassId} {η : Nat → Nat} {σ : (Nat → Nat) × (Nat → Nat)} {A : Nat → Prop} {Q : Sg → Int32 → Prop} (X : CallFix p m c cX9_goesOnBehind 1 s args wsX9_goesOnBehind RX9) (hr : meth.sig.returnType = (some .boolean)) (hlk : meth.locks = false) : ∀ (M : Sg) (s0 : Int32) (s1 : Int32) (H : Heap) (locs : List Loc) (ls : Array Slot), vX9_goesOnBehind_176 Q M s0 s1 → Wd (cN σ) D (Ky κ) A s (mw κ η M) H locs → lv_has ls 1 [(0, .ref (η 0))] → W p l e rmX9_goesOnBehind s m args below meth c H locs 0 0 (MQ below (Qi D (Ky κ) (mw κ η) A Q) args s 0 0 A) (F0 m 176 ls [.int s0, .int s1, .ref (η 12)]) := by
  intro M s0 s1 H locs ls h hw hl
  obtain ⟨hi_, h⟩ := h
  refine r_ias (w' := mw κ η (sA M 20 s1.toNatClampNeg s0)) X hw 12 0 rfl rfl hi_ rfl dX9_goesOnBehind_176 (fun H locs hw => ?_)
  obtain ⟨M_1, eM_1⟩ : ∃ y : Sg, y = sA M 20 s1.toNatClampNeg s0 := ⟨_, rfl⟩
  rw [← eM_1] at hw
  have h := h M_1 eM_1
  refine lv_aload_n X.1 X.2.1 dX9_goesOnBehind_177 rfl (lv_at hl 0 rfl) ?_
  refine lv_dup X.1 X.2.1 dX9_goesOnBehind_178 rfl ?_
  refine r_gf X inX9_goesOnBehind_X9 hw 0 rfl rfl 7 (by decide) (X.2.2.2.2 (.fieldLink RX9 183 "TestHallModel" "at" "I") (by decide +kernel)) rfl rfl dX9_goesOnBehind_179 ?_
  refine lv_iconst (v := (1 : Int32)) X.1 X.2.1 dX9_goesOnBehind_182 (by decide) ?_
  refine lv_iadd X.1 X.2.1 dX9_goesOnBehind_183 ?_
  refine r_pf (ty := .int) (w' := mw κ η (sI M_1 7 ((gI M_1 7) + (1 : Int32)))) X inX9_goesOnBehind_X9 tyX9_ok nmX9 hw 0 rfl rfl 7 (by decide) (X.2.2.2.2 (.fieldLink RX9 183 "TestHallModel" "at" "I") (by decide +kernel)) rfl rfl (by decide +kernel) rfl rfl (Nat.le_of_ble_eq_true rfl) rfl dX9_goesOnBehind_184 (fun H locs hw => ?_)
  obtain ⟨M_2, eM_2⟩ : ∃ y : Sg, y = sI M_1 7 ((gI M_1 7) + (1 : Int32)) := ⟨_, rfl⟩
  rw [← eM_2] at hw
  have h := h M_2 eM_2
  refine lv_iconst (v := (1 : Int32)) X.1 X.2.1 dX9_goesOnBehind_187 (by decide) ?_
  exact r_zret X hr hlk hw rfl h dX9_goesOnBehind_188
def vX9_goesOnBehind_153 (Q : Sg → Int32 → Prop) (M : Sg) : Prop := (wX9_isSign M (60 : Int32) (fun M_1 r_2 => ((r_2 = 0 → (vX9_goesOnBehind_176 Q M_1 (6 : Int32) (gI M 18))) ∧ (¬ r_2 = 0 → (vX9_goesOnBehind_176 Q M_1 (5 : Int32) (gI M 18))))))
set_option maxHeartbeats 4000000 in
set_option maxRecDepth 100000 in
theorem bX9_goesOnBehind_153 {p : Program} {l : Launch} {e : Env} {s : State} {m : MethodId} {args : Array Value} {below : List Frame} {meth : Method} {c : Code} {D : va_G} {κ : Nat → ClassId} {η : Nat → Nat} {σ : (Nat → Nat) × (Nat → Nat)} {A : Nat → Prop} {Q : Sg → Int32 → Prop} (X : CallFix p m c cX9_goesOnBehind 1 s args wsX9_goesOnBehind RX9) (hr : meth.sig.returnType = (some .boolean)) (hlk : meth.locks = false) : ∀ (M : Sg) (H : Heap) (locs : List Loc) (ls : Array Slot), vX9_goesOnBehind_153 Q M → Wd (cN σ) D (Ky κ) A s (mw κ η M) H locs → lv_has ls 1 [(0, .ref (η 0))] → W p l e rmX9_goesOnBehind s m args below meth c H locs 0 0 (MQ below (Qi D (Ky κ) (mw κ η) A Q) args s 0 0 A) (F0 m 153 ls []) := by
  intro M H locs ls h hw hl
  refine lv_aload_n X.1 X.2.1 dX9_goesOnBehind_153 rfl (lv_at hl 0 rfl) ?_
  refine r_gf X inX9_goesOnBehind_X9 hw 0 rfl rfl 20 (by decide) (X.2.2.2.2 (.fieldLink RX9 73 "TestHallModel" "signWaits" "[I") (by decide +kernel)) rfl rfl dX9_goesOnBehind_154 ?_
  refine lv_aload_n X.1 X.2.1 dX9_goesOnBehind_157 rfl (lv_at hl 0 rfl) ?_
  refine r_gf X inX9_goesOnBehind_X9 hw 0 rfl rfl 18 (by decide) (X.2.2.2.2 (.fieldLink RX9 222 "TestHallModel" "deep" "I") (by decide +kernel)) rfl rfl dX9_goesOnBehind_158 ?_
  refine lv_aload_n X.1 X.2.1 dX9_goesOnBehind_161 rfl (lv_at hl 0 rfl) ?_
  refine lv_bipush (v := (60 : Int32)) X.1 X.2.1 dX9_goesOnBehind_162 (by decide) ?_
  refine r_Vi (As := [.int (60 : Int32)]) (rest := [.int (gI M 18), .ref (η 12)]) X cN_ok (kX9_isSign h) (cwV 1 X.2.2.2.2 gX9_goesOnBehind_X9_isSign rfl rfl rfl (by decide +kernel) ⟨Nat.le_of_ble_eq_true rfl, Nat.le_of_ble_eq_true rfl⟩) hw 0 8 rfl rfl rfl hl.1 rfl (Nat.le_of_ble_eq_true rfl) dX9_goesOnBehind_164 (fun r_2 M_1 H locs h hw => ?_)
  obtain ⟨ht_, hf_⟩ := h
  refine lv_if_eq (tgt := 174) X.1 X.2.1 dX9_goesOnBehind_167 (by decide) (fun c_ => ?_) (fun c_ => ?_)
  · have h := ht_ c_
    refine lv_bipush (v := (6 : Int32)) X.1 X.2.1 dX9_goesOnBehind_174 (by decide) ?_
    exact bX9_goesOnBehind_176 X hr hlk M_1 (6 : Int32) (gI M 18) _ _ _ h hw (lv_sub hl [0] rfl)
  · have h := hf_ c_
    refine lv_iconst (v := (5 : Int32)) X.1 X.2.1 dX9_goesOnBehind_170 (by decide) ?_
    refine lv_goto (tgt := 176) X.1 X.2.1 dX9_goesOnBehind_171 (by decide) ?_
    exact bX9_goesOnBehind_176 X hr hlk M_1 (5 : Int32) (gI M 18) _ _ _ h hw (lv_sub hl [0] rfl)
def vX9_goesOnBehind_218 (K0 : Sg → Prop) (Q : Sg → Int32 → Prop) (M : Sg) : Prop := (wX9_isWord M (2 : Int32) (fun M_1 r_2 => ((r_2 = 0 → ((¬ (gI M_1 18) = 0 → (wX9_takeSign M_1 (41 : Int32) (fun M_3 => (∀ (M_5 : Sg), M_5 = sI M_3 18 ((gI M_3 18) - (1 : Int32)) → (K0 M_5))))) ∧ ((gI M_1 18) = 0 → (Q M_1 (0 : Int32))))) ∧ (¬ r_2 = 0 → (vp_in (gI M_1 18) 7 ∧ (∀ (M_6 : Sg), M_6 = sA M_1 21 (gI M_1 18).toNatClampNeg (7 : Int32) → (∀ (M_7 : Sg), M_7 = sI M_6 7 ((gI M_6 7) + (1 : Int32)) → (Q M_7 (1 : Int32)))))))))
set_option maxHeartbeats 4000000 in
set_option maxRecDepth 100000 in
theorem bX9_goesOnBehind_218 {p : Program} {l : Launch} {e : Env} {s : State} {m : MethodId} {args : Array Value} {below : List Frame} {meth : Method} {c : Code} {D : va_G} {κ : Nat → ClassId} {η : Nat → Nat} {σ : (Nat → Nat) × (Nat → Nat)} {A : Nat → Prop} {Q : Sg → Int32 → Prop} {K0 : Sg → Prop} (X : CallFix p m c cX9_goesOnBehind 1 s args wsX9_goesOnBehind RX9) (hr : meth.sig.returnType = (some .boolean)) (hlk : meth.locks = false) (hK0 : ∀ (M : Sg) (H : Heap) (locs : List Loc) (ls : Array Slot), K0 M → Wd (cN σ) D (Ky κ) A s (mw κ η M) H locs → lv_has ls 1 [(0, .ref (η 0))] → W p l e rmX9_goesOnBehind s m args below meth c H locs 0 0 (MQ below (Qi D (Ky κ) (mw κ η) A Q) args s 0 0 A) (F0 m 0 ls [])) : ∀ (M : Sg) (H : Heap) (locs : List Loc) (ls : Array Slot), vX9_goesOnBehind_218 K0 Q M → Wd (cN σ) D (Ky κ) A s (mw κ η M) H locs → lv_has ls 1 [(0, .ref (η 0))] → W p l e rmX9_goesOnBehind s m args below meth c H locs 0 0 (MQ below (Qi D (Ky κ) (mw κ η) A Q) args s 0 0 A) (F0 m 218 ls []) := by
  intro M H locs ls h hw hl
  refine lv_aload_n X.1 X.2.1 dX9_goesOnBehind_218 rfl (lv_at hl 0 rfl) ?_
  refine lv_iconst (v := (2 : Int32)) X.1 X.2.1 dX9_goesOnBehind_219 (by decide) ?_
  refine r_Vi (As := [.int (2 : Int32)]) (rest := []) X cN_ok (kX9_isWord h) (cwV 1 X.2.2.2.2 gX9_goesOnBehind_X9_isWord rfl rfl rfl (by decide +kernel) ⟨Nat.le_of_ble_eq_true rfl, Nat.le_of_ble_eq_true rfl⟩) hw 0 8 rfl rfl rfl hl.1 rfl (Nat.le_of_ble_eq_true rfl) dX9_goesOnBehind_220 (fun r_2 M_1 H locs h hw => ?_)
  obtain ⟨ht_, hf_⟩ := h
  refine lv_if_eq (tgt := 249) X.1 X.2.1 dX9_goesOnBehind_223 (by decide) (fun c_ => ?_) (fun c_ => ?_)
  · have h := ht_ c_
    refine lv_aload_n X.1 X.2.1 dX9_goesOnBehind_249 rfl (lv_at hl 0 rfl) ?_
    refine r_gf X inX9_goesOnBehind_X9 hw 0 rfl rfl 18 (by decide) (X.2.2.2.2 (.fieldLink RX9 222 "TestHallModel" "deep" "I") (by decide +kernel)) rfl rfl dX9_goesOnBehind_250 ?_
    obtain ⟨ht_, hf_⟩ := h
    refine lv_if_ne (tgt := 258) X.1 X.2.1 dX9_goesOnBehind_253 (by decide) (fun c_ => ?_) (fun c_ => ?_)
    · have h := ht_ c_
      refine lv_aload_n X.1 X.2.1 dX9_goesOnBehind_258 rfl (lv_at hl 0 rfl) ?_
      refine lv_bipush (v := (41 : Int32)) X.1 X.2.1 dX9_goesOnBehind_259 (by decide) ?_
      refine r_Vv (As := [.int (41 : Int32)]) (rest := []) X cN_ok (kX9_takeSign h) (cwV 1 X.2.2.2.2 gX9_goesOnBehind_X9_takeSign rfl rfl rfl (by decide +kernel) ⟨Nat.le_of_ble_eq_true rfl, Nat.le_of_ble_eq_true rfl⟩) hw 0 8 rfl rfl rfl hl.1 rfl (Nat.le_of_ble_eq_true rfl) dX9_goesOnBehind_261 (fun M_3 H locs h hw => ?_)
      refine lv_aload_n X.1 X.2.1 dX9_goesOnBehind_264 rfl (lv_at hl 0 rfl) ?_
      refine lv_dup X.1 X.2.1 dX9_goesOnBehind_265 rfl ?_
      refine r_gf X inX9_goesOnBehind_X9 hw 0 rfl rfl 18 (by decide) (X.2.2.2.2 (.fieldLink RX9 222 "TestHallModel" "deep" "I") (by decide +kernel)) rfl rfl dX9_goesOnBehind_266 ?_
      refine lv_iconst (v := (1 : Int32)) X.1 X.2.1 dX9_goesOnBehind_269 (by decide) ?_
      refine lv_isub X.1 X.2.1 dX9_goesOnBehind_270 ?_
      refine r_pf (ty := .int) (w' := mw κ η (sI M_3 18 ((gI M_3 18) - (1 : Int32)))) X inX9_goesOnBehind_X9 tyX9_ok nmX9 hw 0 rfl rfl 18 (by decide) (X.2.2.2.2 (.fieldLink RX9 222 "TestHallModel" "deep" "I") (by decide +kernel)) rfl rfl (by decide +kernel) rfl rfl (Nat.le_of_ble_eq_true rfl) rfl dX9_goesOnBehind_271 (fun H locs hw => ?_)
      obtain ⟨M_5, eM_5⟩ : ∃ y : Sg, y = sI M_3 18 ((gI M_3 18) - (1 : Int32)) := ⟨_, rfl⟩
      rw [← eM_5] at hw
      have h := h M_5 eM_5
      refine lv_goto (tgt := 0) X.1 X.2.1 dX9_goesOnBehind_274 (by decide) ?_
      exact hK0 M_5 _ _ _ h hw (lv_sub hl [0] rfl)
    · have h := hf_ c_
      refine lv_iconst (v := (0 : Int32)) X.1 X.2.1 dX9_goesOnBehind_256 (by decide) ?_
      exact r_zret X hr hlk hw rfl h dX9_goesOnBehind_257
  · have h := hf_ c_
    refine lv_aload_n X.1 X.2.1 dX9_goesOnBehind_226 rfl (lv_at hl 0 rfl) ?_
    refine r_gf X inX9_goesOnBehind_X9 hw 0 rfl rfl 21 (by decide) (X.2.2.2.2 (.fieldLink RX9 76 "TestHallModel" "andWaits" "[I") (by decide +kernel)) rfl rfl dX9_goesOnBehind_227 ?_
    refine lv_aload_n X.1 X.2.1 dX9_goesOnBehind_230 rfl (lv_at hl 0 rfl) ?_
    refine r_gf X inX9_goesOnBehind_X9 hw 0 rfl rfl 18 (by decide) (X.2.2.2.2 (.fieldLink RX9 222 "TestHallModel" "deep" "I") (by decide +kernel)) rfl rfl dX9_goesOnBehind_231 ?_
    refine lv_bipush (v := (7 : Int32)) X.1 X.2.1 dX9_goesOnBehind_234 (by decide) ?_
    obtain ⟨hi_, h⟩ := h
    refine r_ias (w' := mw κ η (sA M_1 21 (gI M_1 18).toNatClampNeg (7 : Int32))) X hw 13 0 rfl rfl hi_ rfl dX9_goesOnBehind_236 (fun H locs hw => ?_)
    obtain ⟨M_6, eM_6⟩ : ∃ y : Sg, y = sA M_1 21 (gI M_1 18).toNatClampNeg (7 : Int32) := ⟨_, rfl⟩
    rw [← eM_6] at hw
    have h := h M_6 eM_6
    refine lv_aload_n X.1 X.2.1 dX9_goesOnBehind_237 rfl (lv_at hl 0 rfl) ?_
    refine lv_dup X.1 X.2.1 dX9_goesOnBehind_238 rfl ?_
    refine r_gf X inX9_goesOnBehind_X9 hw 0 rfl rfl 7 (by decide) (X.2.2.2.2 (.fieldLink RX9 183 "TestHallModel" "at" "I") (by decide +kernel)) rfl rfl dX9_goesOnBehind_239 ?_
    refine lv_iconst (v := (1 : Int32)) X.1 X.2.1 dX9_goesOnBehind_242 (by decide) ?_
    refine lv_iadd X.1 X.2.1 dX9_goesOnBehind_243 ?_
    refine r_pf (ty := .int) (w' := mw κ η (sI M_6 7 ((gI M_6 7) + (1 : Int32)))) X inX9_goesOnBehind_X9 tyX9_ok nmX9 hw 0 rfl rfl 7 (by decide) (X.2.2.2.2 (.fieldLink RX9 183 "TestHallModel" "at" "I") (by decide +kernel)) rfl rfl (by decide +kernel) rfl rfl (Nat.le_of_ble_eq_true rfl) rfl dX9_goesOnBehind_244 (fun H locs hw => ?_)
    obtain ⟨M_7, eM_7⟩ : ∃ y : Sg, y = sI M_6 7 ((gI M_6 7) + (1 : Int32)) := ⟨_, rfl⟩
    rw [← eM_7] at hw
    have h := h M_7 eM_7
    refine lv_iconst (v := (1 : Int32)) X.1 X.2.1 dX9_goesOnBehind_247 (by decide) ?_
    exact r_zret X hr hlk hw rfl h dX9_goesOnBehind_248
def vX9_goesOnBehind_189 (K0 : Sg → Prop) (Q : Sg → Int32 → Prop) (M : Sg) : Prop := (vp_in (gI M 18) 7 ∧ (((gA M 21 (gI M 18).toNatClampNeg) = 0 → (vX9_goesOnBehind_218 K0 Q M)) ∧ (¬ (gA M 21 (gI M 18).toNatClampNeg) = 0 → (wX9_emit M (7 : Int32) (0 : Int32) (fun M_1 => (vp_in (gI M_1 18) 7 ∧ (∀ (M_3 : Sg), M_3 = sA M_1 21 (gI M_1 18).toNatClampNeg (0 : Int32) → (vX9_goesOnBehind_218 K0 Q M_3))))))))
set_option maxHeartbeats 4000000 in
set_option maxRecDepth 100000 in
theorem bX9_goesOnBehind_189 {p : Program} {l : Launch} {e : Env} {s : State} {m : MethodId} {args : Array Value} {below : List Frame} {meth : Method} {c : Code} {D : va_G} {κ : Nat → ClassId} {η : Nat → Nat} {σ : (Nat → Nat) × (Nat → Nat)} {A : Nat → Prop} {Q : Sg → Int32 → Prop} {K0 : Sg → Prop} (X : CallFix p m c cX9_goesOnBehind 1 s args wsX9_goesOnBehind RX9) (hr : meth.sig.returnType = (some .boolean)) (hlk : meth.locks = false) (hK0 : ∀ (M : Sg) (H : Heap) (locs : List Loc) (ls : Array Slot), K0 M → Wd (cN σ) D (Ky κ) A s (mw κ η M) H locs → lv_has ls 1 [(0, .ref (η 0))] → W p l e rmX9_goesOnBehind s m args below meth c H locs 0 0 (MQ below (Qi D (Ky κ) (mw κ η) A Q) args s 0 0 A) (F0 m 0 ls [])) : ∀ (M : Sg) (H : Heap) (locs : List Loc) (ls : Array Slot), vX9_goesOnBehind_189 K0 Q M → Wd (cN σ) D (Ky κ) A s (mw κ η M) H locs → lv_has ls 1 [(0, .ref (η 0))] → W p l e rmX9_goesOnBehind s m args below meth c H locs 0 0 (MQ below (Qi D (Ky κ) (mw κ η) A Q) args s 0 0 A) (F0 m 189 ls []) := by
  intro M H locs ls h hw hl
  refine lv_aload_n X.1 X.2.1 dX9_goesOnBehind_189 rfl (lv_at hl 0 rfl) ?_
  refine r_gf X inX9_goesOnBehind_X9 hw 0 rfl rfl 21 (by decide) (X.2.2.2.2 (.fieldLink RX9 76 "TestHallModel" "andWaits" "[I") (by decide +kernel)) rfl rfl dX9_goesOnBehind_190 ?_
  refine lv_aload_n X.1 X.2.1 dX9_goesOnBehind_193 rfl (lv_at hl 0 rfl) ?_
  refine r_gf X inX9_goesOnBehind_X9 hw 0 rfl rfl 18 (by decide) (X.2.2.2.2 (.fieldLink RX9 222 "TestHallModel" "deep" "I") (by decide +kernel)) rfl rfl dX9_goesOnBehind_194 ?_
  obtain ⟨hi_, h⟩ := h
  refine r_ial X hw 13 0 rfl rfl hi_ dX9_goesOnBehind_197 ?_
  obtain ⟨ht_, hf_⟩ := h
  refine lv_if_eq (tgt := 218) X.1 X.2.1 dX9_goesOnBehind_198 (by decide) (fun c_ => ?_) (fun c_ => ?_)
  · have h := ht_ c_
    exact bX9_goesOnBehind_218 X hr hlk hK0 M _ _ _ h hw (lv_sub hl [0] rfl)
  · have h := hf_ c_
    refine lv_aload_n X.1 X.2.1 dX9_goesOnBehind_201 rfl (lv_at hl 0 rfl) ?_
    refine lv_bipush (v := (7 : Int32)) X.1 X.2.1 dX9_goesOnBehind_202 (by decide) ?_
    refine lv_iconst (v := (0 : Int32)) X.1 X.2.1 dX9_goesOnBehind_204 (by decide) ?_
    refine r_Vv (As := [.int (7 : Int32), .int (0 : Int32)]) (rest := []) X cN_ok (kX9_emit h) (cwV 2 X.2.2.2.2 gX9_goesOnBehind_X9_emit rfl rfl rfl (by decide +kernel) ⟨Nat.le_of_ble_eq_true rfl, Nat.le_of_ble_eq_true rfl⟩) hw 0 8 rfl rfl rfl hl.1 rfl (Nat.le_of_ble_eq_true rfl) dX9_goesOnBehind_205 (fun M_1 H locs h hw => ?_)
    refine lv_aload_n X.1 X.2.1 dX9_goesOnBehind_208 rfl (lv_at hl 0 rfl) ?_
    refine r_gf X inX9_goesOnBehind_X9 hw 0 rfl rfl 21 (by decide) (X.2.2.2.2 (.fieldLink RX9 76 "TestHallModel" "andWaits" "[I") (by decide +kernel)) rfl rfl dX9_goesOnBehind_209 ?_
    refine lv_aload_n X.1 X.2.1 dX9_goesOnBehind_212 rfl (lv_at hl 0 rfl) ?_
    refine r_gf X inX9_goesOnBehind_X9 hw 0 rfl rfl 18 (by decide) (X.2.2.2.2 (.fieldLink RX9 222 "TestHallModel" "deep" "I") (by decide +kernel)) rfl rfl dX9_goesOnBehind_213 ?_
    refine lv_iconst (v := (0 : Int32)) X.1 X.2.1 dX9_goesOnBehind_216 (by decide) ?_
    obtain ⟨hi_, h⟩ := h
    refine r_ias (w' := mw κ η (sA M_1 21 (gI M_1 18).toNatClampNeg (0 : Int32))) X hw 13 0 rfl rfl hi_ rfl dX9_goesOnBehind_217 (fun H locs hw => ?_)
    obtain ⟨M_3, eM_3⟩ : ∃ y : Sg, y = sA M_1 21 (gI M_1 18).toNatClampNeg (0 : Int32) := ⟨_, rfl⟩
    rw [← eM_3] at hw
    have h := h M_3 eM_3
    exact bX9_goesOnBehind_218 X hr hlk hK0 M_3 _ _ _ h hw (lv_sub hl [0] rfl)
def vX9_goesOnBehind_43 (K0 : Sg → Prop) (Q : Sg → Int32 → Prop) (M : Sg) : Prop := (wX9_isSign M (43 : Int32) (fun M_1 r_2 => ((¬ r_2 = 0 → (vX9_goesOnBehind_61 Q M_1)) ∧ (r_2 = 0 → (wX9_isSign M_1 (45 : Int32) (fun M_3 r_4 => ((r_4 = 0 → (vp_in (gI M_3 18) 7 ∧ (((gA M_3 20 (gI M_3 18).toNatClampNeg) = 0 → (wX9_isSign M_3 (60 : Int32) (fun M_5 r_6 => ((¬ r_6 = 0 → (vX9_goesOnBehind_153 Q M_5)) ∧ (r_6 = 0 → (wX9_isSign M_5 (61 : Int32) (fun M_7 r_8 => ((r_8 = 0 → (vX9_goesOnBehind_189 K0 Q M_7)) ∧ (¬ r_8 = 0 → (vX9_goesOnBehind_153 Q M_7)))))))))) ∧ (¬ (gA M_3 20 (gI M_3 18).toNatClampNeg) = 0 → (vp_in (gI M_3 18) 7 ∧ (wX9_emit M_3 (gA M_3 20 (gI M_3 18).toNatClampNeg) (0 : Int32) (fun M_9 => (vp_in (gI M_9 18) 7 ∧ (∀ (M_11 : Sg), M_11 = sA M_9 20 (gI M_9 18).toNatClampNeg (0 : Int32) → (vX9_goesOnBehind_189 K0 Q M_11)))))))))) ∧ (¬ r_4 = 0 → (vX9_goesOnBehind_61 Q M_3)))))))))
set_option maxHeartbeats 4000000 in
set_option maxRecDepth 100000 in
theorem bX9_goesOnBehind_43 {p : Program} {l : Launch} {e : Env} {s : State} {m : MethodId} {args : Array Value} {below : List Frame} {meth : Method} {c : Code} {D : va_G} {κ : Nat → ClassId} {η : Nat → Nat} {σ : (Nat → Nat) × (Nat → Nat)} {A : Nat → Prop} {Q : Sg → Int32 → Prop} {K0 : Sg → Prop} (X : CallFix p m c cX9_goesOnBehind 1 s args wsX9_goesOnBehind RX9) (hr : meth.sig.returnType = (some .boolean)) (hlk : meth.locks = false) (hK0 : ∀ (M : Sg) (H : Heap) (locs : List Loc) (ls : Array Slot), K0 M → Wd (cN σ) D (Ky κ) A s (mw κ η M) H locs → lv_has ls 1 [(0, .ref (η 0))] → W p l e rmX9_goesOnBehind s m args below meth c H locs 0 0 (MQ below (Qi D (Ky κ) (mw κ η) A Q) args s 0 0 A) (F0 m 0 ls [])) : ∀ (M : Sg) (H : Heap) (locs : List Loc) (ls : Array Slot), vX9_goesOnBehind_43 K0 Q M → Wd (cN σ) D (Ky κ) A s (mw κ η M) H locs → lv_has ls 1 [(0, .ref (η 0))] → W p l e rmX9_goesOnBehind s m args below meth c H locs 0 0 (MQ below (Qi D (Ky κ) (mw κ η) A Q) args s 0 0 A) (F0 m 43 ls []) := by
  intro M H locs ls h hw hl
  refine lv_aload_n X.1 X.2.1 dX9_goesOnBehind_43 rfl (lv_at hl 0 rfl) ?_
  refine lv_bipush (v := (43 : Int32)) X.1 X.2.1 dX9_goesOnBehind_44 (by decide) ?_
  refine r_Vi (As := [.int (43 : Int32)]) (rest := []) X cN_ok (kX9_isSign h) (cwV 1 X.2.2.2.2 gX9_goesOnBehind_X9_isSign rfl rfl rfl (by decide +kernel) ⟨Nat.le_of_ble_eq_true rfl, Nat.le_of_ble_eq_true rfl⟩) hw 0 8 rfl rfl rfl hl.1 rfl (Nat.le_of_ble_eq_true rfl) dX9_goesOnBehind_46 (fun r_2 M_1 H locs h hw => ?_)
  obtain ⟨ht_, hf_⟩ := h
  refine lv_if_ne (tgt := 61) X.1 X.2.1 dX9_goesOnBehind_49 (by decide) (fun c_ => ?_) (fun c_ => ?_)
  · have h := ht_ c_
    exact bX9_goesOnBehind_61 X hr hlk M_1 _ _ _ h hw (lv_sub hl [0] rfl)
  · have h := hf_ c_
    refine lv_aload_n X.1 X.2.1 dX9_goesOnBehind_52 rfl (lv_at hl 0 rfl) ?_
    refine lv_bipush (v := (45 : Int32)) X.1 X.2.1 dX9_goesOnBehind_53 (by decide) ?_
    refine r_Vi (As := [.int (45 : Int32)]) (rest := []) X cN_ok (kX9_isSign h) (cwV 1 X.2.2.2.2 gX9_goesOnBehind_X9_isSign rfl rfl rfl (by decide +kernel) ⟨Nat.le_of_ble_eq_true rfl, Nat.le_of_ble_eq_true rfl⟩) hw 0 8 rfl rfl rfl hl.1 rfl (Nat.le_of_ble_eq_true rfl) dX9_goesOnBehind_55 (fun r_4 M_3 H locs h hw => ?_)
    obtain ⟨ht_, hf_⟩ := h
    refine lv_if_eq (tgt := 96) X.1 X.2.1 dX9_goesOnBehind_58 (by decide) (fun c_ => ?_) (fun c_ => ?_)
    · have h := ht_ c_
      refine lv_aload_n X.1 X.2.1 dX9_goesOnBehind_96 rfl (lv_at hl 0 rfl) ?_
      refine r_gf X inX9_goesOnBehind_X9 hw 0 rfl rfl 20 (by decide) (X.2.2.2.2 (.fieldLink RX9 73 "TestHallModel" "signWaits" "[I") (by decide +kernel)) rfl rfl dX9_goesOnBehind_97 ?_
      refine lv_aload_n X.1 X.2.1 dX9_goesOnBehind_100 rfl (lv_at hl 0 rfl) ?_
      refine r_gf X inX9_goesOnBehind_X9 hw 0 rfl rfl 18 (by decide) (X.2.2.2.2 (.fieldLink RX9 222 "TestHallModel" "deep" "I") (by decide +kernel)) rfl rfl dX9_goesOnBehind_101 ?_
      obtain ⟨hi_, h⟩ := h
      refine r_ial X hw 12 0 rfl rfl hi_ dX9_goesOnBehind_104 ?_
      obtain ⟨ht_, hf_⟩ := h
      refine lv_if_eq (tgt := 135) X.1 X.2.1 dX9_goesOnBehind_105 (by decide) (fun c_ => ?_) (fun c_ => ?_)
      · have h := ht_ c_
        refine lv_aload_n X.1 X.2.1 dX9_goesOnBehind_135 rfl (lv_at hl 0 rfl) ?_
        refine lv_bipush (v := (60 : Int32)) X.1 X.2.1 dX9_goesOnBehind_136 (by decide) ?_
        refine r_Vi (As := [.int (60 : Int32)]) (rest := []) X cN_ok (kX9_isSign h) (cwV 1 X.2.2.2.2 gX9_goesOnBehind_X9_isSign rfl rfl rfl (by decide +kernel) ⟨Nat.le_of_ble_eq_true rfl, Nat.le_of_ble_eq_true rfl⟩) hw 0 8 rfl rfl rfl hl.1 rfl (Nat.le_of_ble_eq_true rfl) dX9_goesOnBehind_138 (fun r_6 M_5 H locs h hw => ?_)
        obtain ⟨ht_, hf_⟩ := h
        refine lv_if_ne (tgt := 153) X.1 X.2.1 dX9_goesOnBehind_141 (by decide) (fun c_ => ?_) (fun c_ => ?_)
        · have h := ht_ c_
          exact bX9_goesOnBehind_153 X hr hlk M_5 _ _ _ h hw (lv_sub hl [0] rfl)
        · have h := hf_ c_
          refine lv_aload_n X.1 X.2.1 dX9_goesOnBehind_144 rfl (lv_at hl 0 rfl) ?_
          refine lv_bipush (v := (61 : Int32)) X.1 X.2.1 dX9_goesOnBehind_145 (by decide) ?_
          refine r_Vi (As := [.int (61 : Int32)]) (rest := []) X cN_ok (kX9_isSign h) (cwV 1 X.2.2.2.2 gX9_goesOnBehind_X9_isSign rfl rfl rfl (by decide +kernel) ⟨Nat.le_of_ble_eq_true rfl, Nat.le_of_ble_eq_true rfl⟩) hw 0 8 rfl rfl rfl hl.1 rfl (Nat.le_of_ble_eq_true rfl) dX9_goesOnBehind_147 (fun r_8 M_7 H locs h hw => ?_)
          obtain ⟨ht_, hf_⟩ := h
          refine lv_if_eq (tgt := 189) X.1 X.2.1 dX9_goesOnBehind_150 (by decide) (fun c_ => ?_) (fun c_ => ?_)
          · have h := ht_ c_
            exact bX9_goesOnBehind_189 X hr hlk hK0 M_7 _ _ _ h hw (lv_sub hl [0] rfl)
          · have h := hf_ c_
            exact bX9_goesOnBehind_153 X hr hlk M_7 _ _ _ h hw (lv_sub hl [0] rfl)
      · have h := hf_ c_
        refine lv_aload_n X.1 X.2.1 dX9_goesOnBehind_108 rfl (lv_at hl 0 rfl) ?_
        refine lv_aload_n X.1 X.2.1 dX9_goesOnBehind_109 rfl (lv_at hl 0 rfl) ?_
        refine r_gf X inX9_goesOnBehind_X9 hw 0 rfl rfl 20 (by decide) (X.2.2.2.2 (.fieldLink RX9 73 "TestHallModel" "signWaits" "[I") (by decide +kernel)) rfl rfl dX9_goesOnBehind_110 ?_
        refine lv_aload_n X.1 X.2.1 dX9_goesOnBehind_113 rfl (lv_at hl 0 rfl) ?_
        refine r_gf X inX9_goesOnBehind_X9 hw 0 rfl rfl 18 (by decide) (X.2.2.2.2 (.fieldLink RX9 222 "TestHallModel" "deep" "I") (by decide +kernel)) rfl rfl dX9_goesOnBehind_114 ?_
        obtain ⟨hi_, h⟩ := h
        refine r_ial X hw 12 0 rfl rfl hi_ dX9_goesOnBehind_117 ?_
        refine lv_iconst (v := (0 : Int32)) X.1 X.2.1 dX9_goesOnBehind_118 (by decide) ?_
        refine r_Vv (As := [.int (gA M_3 20 (gI M_3 18).toNatClampNeg), .int (0 : Int32)]) (rest := []) X cN_ok (kX9_emit h) (cwV 2 X.2.2.2.2 gX9_goesOnBehind_X9_emit rfl rfl rfl (by decide +kernel) ⟨Nat.le_of_ble_eq_true rfl, Nat.le_of_ble_eq_true rfl⟩) hw 0 8 rfl rfl rfl hl.1 rfl (Nat.le_of_ble_eq_true rfl) dX9_goesOnBehind_119 (fun M_9 H locs h hw => ?_)
        refine lv_aload_n X.1 X.2.1 dX9_goesOnBehind_122 rfl (lv_at hl 0 rfl) ?_
        refine r_gf X inX9_goesOnBehind_X9 hw 0 rfl rfl 20 (by decide) (X.2.2.2.2 (.fieldLink RX9 73 "TestHallModel" "signWaits" "[I") (by decide +kernel)) rfl rfl dX9_goesOnBehind_123 ?_
        refine lv_aload_n X.1 X.2.1 dX9_goesOnBehind_126 rfl (lv_at hl 0 rfl) ?_
        refine r_gf X inX9_goesOnBehind_X9 hw 0 rfl rfl 18 (by decide) (X.2.2.2.2 (.fieldLink RX9 222 "TestHallModel" "deep" "I") (by decide +kernel)) rfl rfl dX9_goesOnBehind_127 ?_
        refine lv_iconst (v := (0 : Int32)) X.1 X.2.1 dX9_goesOnBehind_130 (by decide) ?_
        obtain ⟨hi_, h⟩ := h
        refine r_ias (w' := mw κ η (sA M_9 20 (gI M_9 18).toNatClampNeg (0 : Int32))) X hw 12 0 rfl rfl hi_ rfl dX9_goesOnBehind_131 (fun H locs hw => ?_)
        obtain ⟨M_11, eM_11⟩ : ∃ y : Sg, y = sA M_9 20 (gI M_9 18).toNatClampNeg (0 : Int32) := ⟨_, rfl⟩
        rw [← eM_11] at hw
        have h := h M_11 eM_11
        refine lv_goto (tgt := 189) X.1 X.2.1 dX9_goesOnBehind_132 (by decide) ?_
        exact bX9_goesOnBehind_189 X hr hlk hK0 M_11 _ _ _ h hw (lv_sub hl [0] rfl)
    · have h := hf_ c_
      exact bX9_goesOnBehind_61 X hr hlk M_3 _ _ _ h hw (lv_sub hl [0] rfl)
def vX9_goesOnBehind_0 (Q : Sg → Int32 → Prop) : Nat → Sg → Prop
  | 0, _ => False
  | f0_ + 1, M => ((¬ (gI M 8) = 0 → (Q M (0 : Int32))) ∧ ((gI M 8) = 0 → (vp_in (gI M 18) 7 ∧ (((gA M 19 (gI M 18).toNatClampNeg) = 0 → (vX9_goesOnBehind_43 (vX9_goesOnBehind_0 Q f0_) Q M)) ∧ (¬ (gA M 19 (gI M 18).toNatClampNeg) = 0 → (vp_in (gI M 18) 7 ∧ (wX9_emit M (gA M 19 (gI M 18).toNatClampNeg) (0 : Int32) (fun M_1 => (vp_in (gI M_1 18) 7 ∧ (∀ (M_3 : Sg), M_3 = sA M_1 19 (gI M_1 18).toNatClampNeg (0 : Int32) → (vX9_goesOnBehind_43 (vX9_goesOnBehind_0 Q f0_) Q M_3)))))))))))
set_option maxHeartbeats 4000000 in
set_option maxRecDepth 100000 in
theorem bX9_goesOnBehind_0 {p : Program} {l : Launch} {e : Env} {s : State} {m : MethodId} {args : Array Value} {below : List Frame} {meth : Method} {c : Code} {D : va_G} {κ : Nat → ClassId} {η : Nat → Nat} {σ : (Nat → Nat) × (Nat → Nat)} {A : Nat → Prop} {Q : Sg → Int32 → Prop} (X : CallFix p m c cX9_goesOnBehind 1 s args wsX9_goesOnBehind RX9) (hr : meth.sig.returnType = (some .boolean)) (hlk : meth.locks = false) : ∀ (f_ : Nat) (M : Sg) (H : Heap) (locs : List Loc) (ls : Array Slot), vX9_goesOnBehind_0 Q f_ M → Wd (cN σ) D (Ky κ) A s (mw κ η M) H locs → lv_has ls 1 [(0, .ref (η 0))] → W p l e rmX9_goesOnBehind s m args below meth c H locs 0 0 (MQ below (Qi D (Ky κ) (mw κ η) A Q) args s 0 0 A) (F0 m 0 ls []) := by
  intro f_
  induction f_ with
  | zero => intro M H locs ls h; exact h.elim
  | succ f_ hK0 =>
    intro M H locs ls h hw hl
    refine lv_aload_n X.1 X.2.1 dX9_goesOnBehind_0 rfl (lv_at hl 0 rfl) ?_
    refine r_gf X inX9_goesOnBehind_X9 hw 0 rfl rfl 8 (by decide) (X.2.2.2.2 (.fieldLink RX9 186 "TestHallModel" "fault" "I") (by decide +kernel)) rfl rfl dX9_goesOnBehind_1 ?_
    obtain ⟨ht_, hf_⟩ := h
    refine lv_if_ne (tgt := 277) X.1 X.2.1 dX9_goesOnBehind_4 (by decide) (fun c_ => ?_) (fun c_ => ?_)
    · have h := ht_ c_
      refine lv_iconst (v := (0 : Int32)) X.1 X.2.1 dX9_goesOnBehind_277 (by decide) ?_
      exact r_zret X hr hlk hw rfl h dX9_goesOnBehind_278
    · have h := hf_ c_
      refine lv_aload_n X.1 X.2.1 dX9_goesOnBehind_7 rfl (lv_at hl 0 rfl) ?_
      refine r_gf X inX9_goesOnBehind_X9 hw 0 rfl rfl 19 (by decide) (X.2.2.2.2 (.fieldLink RX9 70 "TestHallModel" "sumWaits" "[I") (by decide +kernel)) rfl rfl dX9_goesOnBehind_8 ?_
      refine lv_aload_n X.1 X.2.1 dX9_goesOnBehind_11 rfl (lv_at hl 0 rfl) ?_
      refine r_gf X inX9_goesOnBehind_X9 hw 0 rfl rfl 18 (by decide) (X.2.2.2.2 (.fieldLink RX9 222 "TestHallModel" "deep" "I") (by decide +kernel)) rfl rfl dX9_goesOnBehind_12 ?_
      obtain ⟨hi_, h⟩ := h
      refine r_ial X hw 11 0 rfl rfl hi_ dX9_goesOnBehind_15 ?_
      obtain ⟨ht_, hf_⟩ := h
      refine lv_if_eq (tgt := 43) X.1 X.2.1 dX9_goesOnBehind_16 (by decide) (fun c_ => ?_) (fun c_ => ?_)
      · have h := ht_ c_
        exact bX9_goesOnBehind_43 X hr hlk hK0 M _ _ _ h hw (lv_sub hl [0] rfl)
      · have h := hf_ c_
        refine lv_aload_n X.1 X.2.1 dX9_goesOnBehind_19 rfl (lv_at hl 0 rfl) ?_
        refine lv_aload_n X.1 X.2.1 dX9_goesOnBehind_20 rfl (lv_at hl 0 rfl) ?_
        refine r_gf X inX9_goesOnBehind_X9 hw 0 rfl rfl 19 (by decide) (X.2.2.2.2 (.fieldLink RX9 70 "TestHallModel" "sumWaits" "[I") (by decide +kernel)) rfl rfl dX9_goesOnBehind_21 ?_
        refine lv_aload_n X.1 X.2.1 dX9_goesOnBehind_24 rfl (lv_at hl 0 rfl) ?_
        refine r_gf X inX9_goesOnBehind_X9 hw 0 rfl rfl 18 (by decide) (X.2.2.2.2 (.fieldLink RX9 222 "TestHallModel" "deep" "I") (by decide +kernel)) rfl rfl dX9_goesOnBehind_25 ?_
        obtain ⟨hi_, h⟩ := h
        refine r_ial X hw 11 0 rfl rfl hi_ dX9_goesOnBehind_28 ?_
        refine lv_iconst (v := (0 : Int32)) X.1 X.2.1 dX9_goesOnBehind_29 (by decide) ?_
        refine r_Vv (As := [.int (gA M 19 (gI M 18).toNatClampNeg), .int (0 : Int32)]) (rest := []) X cN_ok (kX9_emit h) (cwV 2 X.2.2.2.2 gX9_goesOnBehind_X9_emit rfl rfl rfl (by decide +kernel) ⟨Nat.le_of_ble_eq_true rfl, Nat.le_of_ble_eq_true rfl⟩) hw 0 8 rfl rfl rfl hl.1 rfl (Nat.le_of_ble_eq_true rfl) dX9_goesOnBehind_30 (fun M_1 H locs h hw => ?_)
        refine lv_aload_n X.1 X.2.1 dX9_goesOnBehind_33 rfl (lv_at hl 0 rfl) ?_
        refine r_gf X inX9_goesOnBehind_X9 hw 0 rfl rfl 19 (by decide) (X.2.2.2.2 (.fieldLink RX9 70 "TestHallModel" "sumWaits" "[I") (by decide +kernel)) rfl rfl dX9_goesOnBehind_34 ?_
        refine lv_aload_n X.1 X.2.1 dX9_goesOnBehind_37 rfl (lv_at hl 0 rfl) ?_
        refine r_gf X inX9_goesOnBehind_X9 hw 0 rfl rfl 18 (by decide) (X.2.2.2.2 (.fieldLink RX9 222 "TestHallModel" "deep" "I") (by decide +kernel)) rfl rfl dX9_goesOnBehind_38 ?_
        refine lv_iconst (v := (0 : Int32)) X.1 X.2.1 dX9_goesOnBehind_41 (by decide) ?_
        obtain ⟨hi_, h⟩ := h
        refine r_ias (w' := mw κ η (sA M_1 19 (gI M_1 18).toNatClampNeg (0 : Int32))) X hw 11 0 rfl rfl hi_ rfl dX9_goesOnBehind_42 (fun H locs hw => ?_)
        obtain ⟨M_3, eM_3⟩ : ∃ y : Sg, y = sA M_1 19 (gI M_1 18).toNatClampNeg (0 : Int32) := ⟨_, rfl⟩
        rw [← eM_3] at hw
        have h := h M_3 eM_3
        exact bX9_goesOnBehind_43 X hr hlk hK0 M_3 _ _ _ h hw (lv_sub hl [0] rfl)
def wX9_goesOnBehind (M : Sg) (Q : Sg → Int32 → Prop) : Prop := (∃ g0_ : Nat, vX9_goesOnBehind_0 Q g0_ M)
set_option maxHeartbeats 4000000 in
set_option maxRecDepth 100000 in
theorem kX9_goesOnBehind {l : Launch} {D : va_G} {κ : Nat → ClassId} {η : Nat → Nat} {σ : (Nat → Nat) × (Nat → Nat)} {M : Sg} {Q : Sg → Int32 → Prop} (h : wX9_goesOnBehind M Q) : Ki (cN σ) D (Ky κ) (mw κ η) l yX9_goesOnBehind wsX9_goesOnBehind rmX9_goesOnBehind [.ref (η 0)] M Q := by
  refine ofW_g (Qc := fun A => Qi D (Ky κ) (mw κ η) A Q) (cc := cX9_goesOnBehind) (maxL := 1) (ret := (some .boolean)) (by decide) rfl (Nat.le_of_ble_eq_true rfl) ?_
  intro p e s m args below meth c A ls X hr hlk hw hl
  have hl : lv_has ls 1 [(0, .ref (η 0))] := hl
  obtain ⟨f_, h⟩ := h
  exact bX9_goesOnBehind_0 X hr hlk f_ M _ _ _ h hw (lv_sub hl [0] rfl)

theorem inX9_opens_X9 : ∀ w ∈ wsX90, w ∈ wsX9_opens := fun w h => List.mem_cons_of_mem _ (List.mem_append_right _ h)
abbrev rmX9_opens : Room := { frames := 0, cells := 0, slots := 0, locals := 0 }
def wX9_opens (M : Sg) (Q : Sg → Prop) : Prop := (vp_in (gI M 18) 7 ∧ (∀ (M_1 : Sg), M_1 = sA M 19 (gI M 18).toNatClampNeg (0 : Int32) → (vp_in (gI M_1 18) 7 ∧ (∀ (M_2 : Sg), M_2 = sA M_1 20 (gI M_1 18).toNatClampNeg (0 : Int32) → (vp_in (gI M_2 18) 7 ∧ (∀ (M_3 : Sg), M_3 = sA M_2 21 (gI M_2 18).toNatClampNeg (0 : Int32) → (Q M_3)))))))
set_option maxHeartbeats 4000000 in
set_option maxRecDepth 100000 in
theorem kX9_opens {l : Launch} {D : va_G} {κ : Nat → ClassId} {η : Nat → Nat} {σ : (Nat → Nat) × (Nat → Nat)} {M : Sg} {Q : Sg → Prop} (h : wX9_opens M Q) : Kv (cN σ) D (Ky κ) (mw κ η) l yX9_opens wsX9_opens rmX9_opens [.ref (η 0)] M Q := by
  refine ofW_g (Qc := fun A => Qv D (Ky κ) (mw κ η) A Q) (cc := cX9_opens) (maxL := 1) (ret := none) (by decide) rfl (Nat.le_of_ble_eq_true rfl) ?_
  intro p e s m args below meth c A ls X hr hlk hw hl
  have hl : lv_has ls 1 [(0, .ref (η 0))] := hl
  refine lv_aload_n X.1 X.2.1 dX9_opens_0 rfl (lv_at hl 0 rfl) ?_
  refine r_gf X inX9_opens_X9 hw 0 rfl rfl 19 (by decide) (X.2.2.2.2 (.fieldLink RX9 70 "TestHallModel" "sumWaits" "[I") (by decide +kernel)) rfl rfl dX9_opens_1 ?_
  refine lv_aload_n X.1 X.2.1 dX9_opens_4 rfl (lv_at hl 0 rfl) ?_
  refine r_gf X inX9_opens_X9 hw 0 rfl rfl 18 (by decide) (X.2.2.2.2 (.fieldLink RX9 222 "TestHallModel" "deep" "I") (by decide +kernel)) rfl rfl dX9_opens_5 ?_
  refine lv_iconst (v := (0 : Int32)) X.1 X.2.1 dX9_opens_8 (by decide) ?_
  obtain ⟨hi_, h⟩ := h
  refine r_ias (w' := mw κ η (sA M 19 (gI M 18).toNatClampNeg (0 : Int32))) X hw 11 0 rfl rfl hi_ rfl dX9_opens_9 (fun H locs hw => ?_)
  obtain ⟨M_1, eM_1⟩ : ∃ y : Sg, y = sA M 19 (gI M 18).toNatClampNeg (0 : Int32) := ⟨_, rfl⟩
  rw [← eM_1] at hw
  have h := h M_1 eM_1
  refine lv_aload_n X.1 X.2.1 dX9_opens_10 rfl (lv_at hl 0 rfl) ?_
  refine r_gf X inX9_opens_X9 hw 0 rfl rfl 20 (by decide) (X.2.2.2.2 (.fieldLink RX9 73 "TestHallModel" "signWaits" "[I") (by decide +kernel)) rfl rfl dX9_opens_11 ?_
  refine lv_aload_n X.1 X.2.1 dX9_opens_14 rfl (lv_at hl 0 rfl) ?_
  refine r_gf X inX9_opens_X9 hw 0 rfl rfl 18 (by decide) (X.2.2.2.2 (.fieldLink RX9 222 "TestHallModel" "deep" "I") (by decide +kernel)) rfl rfl dX9_opens_15 ?_
  refine lv_iconst (v := (0 : Int32)) X.1 X.2.1 dX9_opens_18 (by decide) ?_
  obtain ⟨hi_, h⟩ := h
  refine r_ias (w' := mw κ η (sA M_1 20 (gI M_1 18).toNatClampNeg (0 : Int32))) X hw 12 0 rfl rfl hi_ rfl dX9_opens_19 (fun H locs hw => ?_)
  obtain ⟨M_2, eM_2⟩ : ∃ y : Sg, y = sA M_1 20 (gI M_1 18).toNatClampNeg (0 : Int32) := ⟨_, rfl⟩
  rw [← eM_2] at hw
  have h := h M_2 eM_2
  refine lv_aload_n X.1 X.2.1 dX9_opens_20 rfl (lv_at hl 0 rfl) ?_
  refine r_gf X inX9_opens_X9 hw 0 rfl rfl 21 (by decide) (X.2.2.2.2 (.fieldLink RX9 76 "TestHallModel" "andWaits" "[I") (by decide +kernel)) rfl rfl dX9_opens_21 ?_
  refine lv_aload_n X.1 X.2.1 dX9_opens_24 rfl (lv_at hl 0 rfl) ?_
  refine r_gf X inX9_opens_X9 hw 0 rfl rfl 18 (by decide) (X.2.2.2.2 (.fieldLink RX9 222 "TestHallModel" "deep" "I") (by decide +kernel)) rfl rfl dX9_opens_25 ?_
  refine lv_iconst (v := (0 : Int32)) X.1 X.2.1 dX9_opens_28 (by decide) ?_
  obtain ⟨hi_, h⟩ := h
  refine r_ias (w' := mw κ η (sA M_2 21 (gI M_2 18).toNatClampNeg (0 : Int32))) X hw 13 0 rfl rfl hi_ rfl dX9_opens_29 (fun H locs hw => ?_)
  obtain ⟨M_3, eM_3⟩ : ∃ y : Sg, y = sA M_2 21 (gI M_2 18).toNatClampNeg (0 : Int32) := ⟨_, rfl⟩
  rw [← eM_3] at hw
  have h := h M_3 eM_3
  exact r_vret X hr hlk hw h dX9_opens_30

abbrev rmX9_partWord : Room := { frames := 1, cells := 0, slots := 0, locals := 21 }
def vX9_partWord_2 (Q : Sg → Int32 → Prop) : Nat → Sg → Int32 → Prop
  | 0, _, _ => False
  | f2_ + 1, M, x1 => (((6 : Int32) ≤ x1 → (Q M (-1 : Int32))) ∧ (¬ (6 : Int32) ≤ x1 → (wX9_isWord M ((3 : Int32) + x1) (fun M_1 r_2 => ((r_2 = 0 → (∀ (x_3 : Int32), x_3 = x1 + (1 : Int32) → (vX9_partWord_2 Q f2_ M_1 x_3))) ∧ (¬ r_2 = 0 → (Q M_1 x1)))))))
set_option maxHeartbeats 4000000 in
set_option maxRecDepth 100000 in
theorem bX9_partWord_2 {p : Program} {l : Launch} {e : Env} {s : State} {m : MethodId} {args : Array Value} {below : List Frame} {meth : Method} {c : Code} {D : va_G} {κ : Nat → ClassId} {η : Nat → Nat} {σ : (Nat → Nat) × (Nat → Nat)} {A : Nat → Prop} {Q : Sg → Int32 → Prop} (X : CallFix p m c cX9_partWord 2 s args wsX9_partWord RX9) (hr : meth.sig.returnType = (some .int)) (hlk : meth.locks = false) : ∀ (f_ : Nat) (M : Sg) (x1 : Int32) (H : Heap) (locs : List Loc) (ls : Array Slot), vX9_partWord_2 Q f_ M x1 → Wd (cN σ) D (Ky κ) A s (mw κ η M) H locs → lv_has ls 2 [(0, .ref (η 0)), (1, .int x1)] → W p l e rmX9_partWord s m args below meth c H locs 0 0 (MQ below (Qi D (Ky κ) (mw κ η) A Q) args s 0 0 A) (F0 m 2 ls []) := by
  intro f_
  induction f_ with
  | zero => intro M x1 H locs ls h; exact h.elim
  | succ f_ hK2 =>
    intro M x1 H locs ls h hw hl
    refine lv_iload_n X.1 X.2.1 dX9_partWord_2 rfl (lv_at hl 1 rfl) ?_
    refine lv_bipush (v := (6 : Int32)) X.1 X.2.1 dX9_partWord_3 (by decide) ?_
    obtain ⟨ht_, hf_⟩ := h
    refine lv_icmp_ge (tgt := 26) X.1 X.2.1 dX9_partWord_5 (by decide) (fun c_ => ?_) (fun c_ => ?_)
    · have h := ht_ c_
      refine lv_iconst (v := (-1 : Int32)) X.1 X.2.1 dX9_partWord_26 (by decide) ?_
      exact r_ret X hr hlk hw h dX9_partWord_27
    · have h := hf_ c_
      refine lv_aload_n X.1 X.2.1 dX9_partWord_8 rfl (lv_at hl 0 rfl) ?_
      refine lv_iconst (v := (3 : Int32)) X.1 X.2.1 dX9_partWord_9 (by decide) ?_
      refine lv_iload_n X.1 X.2.1 dX9_partWord_10 rfl (lv_at hl 1 rfl) ?_
      refine lv_iadd X.1 X.2.1 dX9_partWord_11 ?_
      refine r_Vi (As := [.int ((3 : Int32) + x1)]) (rest := []) X cN_ok (kX9_isWord h) (cwV 1 X.2.2.2.2 gX9_partWord_X9_isWord rfl rfl rfl (by decide +kernel) ⟨Nat.le_of_ble_eq_true rfl, Nat.le_of_ble_eq_true rfl⟩) hw 0 8 rfl rfl rfl hl.1 rfl (Nat.le_of_ble_eq_true rfl) dX9_partWord_12 (fun r_2 M_1 H locs h hw => ?_)
      obtain ⟨ht_, hf_⟩ := h
      refine lv_if_eq (tgt := 20) X.1 X.2.1 dX9_partWord_15 (by decide) (fun c_ => ?_) (fun c_ => ?_)
      · have h := ht_ c_
        obtain ⟨x_3, ex_3⟩ : ∃ y : Int32, y = x1 + (1 : Int32) := ⟨_, rfl⟩
        have h := h x_3 ex_3
        refine lv_iinc (v := x_3) (lv' := [(1, .int x_3), (0, .ref (η 0))]) X.1 X.2.1 dX9_partWord_20 hl (k := 1) rfl (by rw [ex_3]; rfl) (by decide) rfl (fun ls hl => ?_)
        refine lv_goto (tgt := 2) X.1 X.2.1 dX9_partWord_23 (by decide) ?_
        exact hK2 M_1 x_3 _ _ _ h hw (lv_sub hl [1, 0] rfl)
      · have h := hf_ c_
        refine lv_iload_n X.1 X.2.1 dX9_partWord_18 rfl (lv_at hl 1 rfl) ?_
        exact r_ret X hr hlk hw h dX9_partWord_19
def wX9_partWord (M : Sg) (Q : Sg → Int32 → Prop) : Prop := (∃ g2_ : Nat, vX9_partWord_2 Q g2_ M (0 : Int32))
set_option maxHeartbeats 4000000 in
set_option maxRecDepth 100000 in
theorem kX9_partWord {l : Launch} {D : va_G} {κ : Nat → ClassId} {η : Nat → Nat} {σ : (Nat → Nat) × (Nat → Nat)} {M : Sg} {Q : Sg → Int32 → Prop} (h : wX9_partWord M Q) : Ki (cN σ) D (Ky κ) (mw κ η) l yX9_partWord wsX9_partWord rmX9_partWord [.ref (η 0)] M Q := by
  refine ofW_g (Qc := fun A => Qi D (Ky κ) (mw κ η) A Q) (cc := cX9_partWord) (maxL := 2) (ret := (some .int)) (by decide) rfl (Nat.le_of_ble_eq_true rfl) ?_
  intro p e s m args below meth c A ls X hr hlk hw hl
  have hl : lv_has ls 2 [(0, .ref (η 0))] := hl
  refine lv_iconst (v := (0 : Int32)) X.1 X.2.1 dX9_partWord_0 (by decide) ?_
  refine lv_istore_n (lv' := [(1, .int (0 : Int32)), (0, .ref (η 0))]) X.1 X.2.1 dX9_partWord_1 rfl hl (by decide) rfl (fun ls hl => ?_)
  obtain ⟨f_, h⟩ := h
  exact bX9_partWord_2 X hr hlk f_ M (0 : Int32) _ _ _ h hw (lv_sub hl [1, 0] rfl)

theorem inX9_part_X9 : ∀ w ∈ wsX90, w ∈ wsX9_part := fun w h => List.mem_cons_of_mem _ (List.mem_append_right _ h)
abbrev rmX9_part : Room := { frames := 2, cells := 0, slots := 0, locals := 43 }
def vX9_part_121 (Q : Sg → Int32 → Prop) (M : Sg) (s0 : Int32) (s1 : Int32) : Prop := (wX9_emit M s1 s0 (fun M_1 => (∀ (M_3 : Sg), M_3 = sI M_1 7 ((gI M_1 7) + (1 : Int32)) → (Q M_3 (0 : Int32)))))
set_option maxHeartbeats 4000000 in
set_option maxRecDepth 100000 in
theorem bX9_part_121 {p : Program} {l : Launch} {e : Env} {s : State} {m : MethodId} {args : Array Value} {below : List Frame} {meth : Method} {c : Code} {D : va_G} {κ : Nat → ClassId} {η : Nat → Nat} {σ : (Nat → Nat) × (Nat → Nat)} {A : Nat → Prop} {Q : Sg → Int32 → Prop} (X : CallFix p m c cX9_part 2 s args wsX9_part RX9) (hr : meth.sig.returnType = (some .boolean)) (hlk : meth.locks = false) : ∀ (M : Sg) (s0 : Int32) (s1 : Int32) (H : Heap) (locs : List Loc) (ls : Array Slot), vX9_part_121 Q M s0 s1 → Wd (cN σ) D (Ky κ) A s (mw κ η M) H locs → lv_has ls 2 [(0, .ref (η 0))] → W p l e rmX9_part s m args below meth c H locs 0 0 (MQ below (Qi D (Ky κ) (mw κ η) A Q) args s 0 0 A) (F0 m 121 ls [.int s0, .int s1, .ref (η 0)]) := by
  intro M s0 s1 H locs ls h hw hl
  refine r_Vv (As := [.int s1, .int s0]) (rest := []) X cN_ok (kX9_emit h) (cwV 2 X.2.2.2.2 gX9_part_X9_emit rfl rfl rfl (by decide +kernel) ⟨Nat.le_of_ble_eq_true rfl, Nat.le_of_ble_eq_true rfl⟩) hw 0 8 rfl rfl rfl hl.1 rfl (Nat.le_of_ble_eq_true rfl) dX9_part_121 (fun M_1 H locs h hw => ?_)
  refine lv_aload_n X.1 X.2.1 dX9_part_124 rfl (lv_at hl 0 rfl) ?_
  refine lv_dup X.1 X.2.1 dX9_part_125 rfl ?_
  refine r_gf X inX9_part_X9 hw 0 rfl rfl 7 (by decide) (X.2.2.2.2 (.fieldLink RX9 183 "TestHallModel" "at" "I") (by decide +kernel)) rfl rfl dX9_part_126 ?_
  refine lv_iconst (v := (1 : Int32)) X.1 X.2.1 dX9_part_129 (by decide) ?_
  refine lv_iadd X.1 X.2.1 dX9_part_130 ?_
  refine r_pf (ty := .int) (w' := mw κ η (sI M_1 7 ((gI M_1 7) + (1 : Int32)))) X inX9_part_X9 tyX9_ok nmX9 hw 0 rfl rfl 7 (by decide) (X.2.2.2.2 (.fieldLink RX9 183 "TestHallModel" "at" "I") (by decide +kernel)) rfl rfl (by decide +kernel) rfl rfl (Nat.le_of_ble_eq_true rfl) rfl dX9_part_131 (fun H locs hw => ?_)
  obtain ⟨M_3, eM_3⟩ : ∃ y : Sg, y = sI M_1 7 ((gI M_1 7) + (1 : Int32)) := ⟨_, rfl⟩
  rw [← eM_3] at hw
  have h := h M_3 eM_3
  refine lv_iconst (v := (0 : Int32)) X.1 X.2.1 dX9_part_134 (by decide) ?_
  exact r_zret X hr hlk hw rfl h dX9_part_135
def vX9_part_103 (Q : Sg → Int32 → Prop) (M : Sg) (x1 : Int32) (s0 : Int32) : Prop := ((0 ≤ x1 → (vX9_part_121 Q M x1 s0)) ∧ (¬ 0 ≤ x1 → (vp_in (gI M 7) 602 ∧ (vX9_part_121 Q M ((gJ M 6 (gI M 7).toNatClampNeg).toInt32) s0))))
set_option maxHeartbeats 4000000 in
set_option maxRecDepth 100000 in
theorem bX9_part_103 {p : Program} {l : Launch} {e : Env} {s : State} {m : MethodId} {args : Array Value} {below : List Frame} {meth : Method} {c : Code} {D : va_G} {κ : Nat → ClassId} {η : Nat → Nat} {σ : (Nat → Nat) × (Nat → Nat)} {A : Nat → Prop} {Q : Sg → Int32 → Prop} (X : CallFix p m c cX9_part 2 s args wsX9_part RX9) (hr : meth.sig.returnType = (some .boolean)) (hlk : meth.locks = false) : ∀ (M : Sg) (x1 : Int32) (s0 : Int32) (H : Heap) (locs : List Loc) (ls : Array Slot), vX9_part_103 Q M x1 s0 → Wd (cN σ) D (Ky κ) A s (mw κ η M) H locs → lv_has ls 2 [(0, .ref (η 0)), (1, .int x1)] → W p l e rmX9_part s m args below meth c H locs 0 0 (MQ below (Qi D (Ky κ) (mw κ η) A Q) args s 0 0 A) (F0 m 103 ls [.int s0, .ref (η 0)]) := by
  intro M x1 s0 H locs ls h hw hl
  refine lv_iload_n X.1 X.2.1 dX9_part_103 rfl (lv_at hl 1 rfl) ?_
  obtain ⟨ht_, hf_⟩ := h
  refine lv_if_ge (tgt := 120) X.1 X.2.1 dX9_part_104 (by decide) (fun c_ => ?_) (fun c_ => ?_)
  · have h := ht_ c_
    refine lv_iload_n X.1 X.2.1 dX9_part_120 rfl (lv_at hl 1 rfl) ?_
    exact bX9_part_121 X hr hlk M x1 s0 _ _ _ h hw (lv_sub hl [0] rfl)
  · have h := hf_ c_
    refine lv_aload_n X.1 X.2.1 dX9_part_107 rfl (lv_at hl 0 rfl) ?_
    refine r_gf X inX9_part_X9 hw 0 rfl rfl 6 (by decide) (X.2.2.2.2 (.fieldLink RX9 30 "TestHallModel" "value" "[J") (by decide +kernel)) rfl rfl dX9_part_108 ?_
    refine lv_aload_n X.1 X.2.1 dX9_part_111 rfl (lv_at hl 0 rfl) ?_
    refine r_gf X inX9_part_X9 hw 0 rfl rfl 7 (by decide) (X.2.2.2.2 (.fieldLink RX9 183 "TestHallModel" "at" "I") (by decide +kernel)) rfl rfl dX9_part_112 ?_
    obtain ⟨hi_, h⟩ := h
    refine r_lal X hw 4 3 rfl rfl hi_ dX9_part_115 ?_
    refine lv_l2i (v := (gJ M 6 (gI M 7).toNatClampNeg).toInt32) X.1 X.2.1 dX9_part_116 rfl ?_
    refine lv_goto (tgt := 121) X.1 X.2.1 dX9_part_117 (by decide) ?_
    exact bX9_part_121 X hr hlk M ((gJ M 6 (gI M 7).toNatClampNeg).toInt32) s0 _ _ _ h hw (lv_sub hl [0] rfl)
def vX9_part_59 (Q : Sg → Int32 → Prop) (M : Sg) (x1 : Int32) : Prop := (((gI M 8) ≤ 0 → (wX9_hasSign M (40 : Int32) (fun M_1 r_2 => ((r_2 = 0 → ((0 ≤ x1 → (vX9_part_103 Q M_1 x1 (2 : Int32))) ∧ (¬ 0 ≤ x1 → (vX9_part_103 Q M_1 x1 (1 : Int32))))) ∧ (¬ r_2 = 0 → (∀ (M_3 : Sg), M_3 = sI M_1 18 ((gI M_1 18) + (1 : Int32)) → (wX9_opens M_3 (fun M_4 => (Q M_4 (1 : Int32)))))))))) ∧ (¬ (gI M 8) ≤ 0 → (Q M (0 : Int32))))
set_option maxHeartbeats 4000000 in
set_option maxRecDepth 100000 in
theorem bX9_part_59 {p : Program} {l : Launch} {e : Env} {s : State} {m : MethodId} {args : Array Value} {below : List Frame} {meth : Method} {c : Code} {D : va_G} {κ : Nat → ClassId} {η : Nat → Nat} {σ : (Nat → Nat) × (Nat → Nat)} {A : Nat → Prop} {Q : Sg → Int32 → Prop} (X : CallFix p m c cX9_part 2 s args wsX9_part RX9) (hr : meth.sig.returnType = (some .boolean)) (hlk : meth.locks = false) : ∀ (M : Sg) (x1 : Int32) (H : Heap) (locs : List Loc) (ls : Array Slot), vX9_part_59 Q M x1 → Wd (cN σ) D (Ky κ) A s (mw κ η M) H locs → lv_has ls 2 [(0, .ref (η 0)), (1, .int x1)] → W p l e rmX9_part s m args below meth c H locs 0 0 (MQ below (Qi D (Ky κ) (mw κ η) A Q) args s 0 0 A) (F0 m 59 ls []) := by
  intro M x1 H locs ls h hw hl
  refine lv_aload_n X.1 X.2.1 dX9_part_59 rfl (lv_at hl 0 rfl) ?_
  refine r_gf X inX9_part_X9 hw 0 rfl rfl 8 (by decide) (X.2.2.2.2 (.fieldLink RX9 186 "TestHallModel" "fault" "I") (by decide +kernel)) rfl rfl dX9_part_60 ?_
  obtain ⟨ht_, hf_⟩ := h
  refine lv_if_le (tgt := 68) X.1 X.2.1 dX9_part_63 (by decide) (fun c_ => ?_) (fun c_ => ?_)
  · have h := ht_ c_
    refine lv_aload_n X.1 X.2.1 dX9_part_68 rfl (lv_at hl 0 rfl) ?_
    refine lv_bipush (v := (40 : Int32)) X.1 X.2.1 dX9_part_69 (by decide) ?_
    refine r_Vi (As := [.int (40 : Int32)]) (rest := []) X cN_ok (kX9_hasSign h) (cwV 1 X.2.2.2.2 gX9_part_X9_hasSign rfl rfl rfl (by decide +kernel) ⟨Nat.le_of_ble_eq_true rfl, Nat.le_of_ble_eq_true rfl⟩) hw 0 8 rfl rfl rfl hl.1 rfl (Nat.le_of_ble_eq_true rfl) dX9_part_71 (fun r_2 M_1 H locs h hw => ?_)
    obtain ⟨ht_, hf_⟩ := h
    refine lv_if_eq (tgt := 93) X.1 X.2.1 dX9_part_74 (by decide) (fun c_ => ?_) (fun c_ => ?_)
    · have h := ht_ c_
      refine lv_aload_n X.1 X.2.1 dX9_part_93 rfl (lv_at hl 0 rfl) ?_
      refine lv_iload_n X.1 X.2.1 dX9_part_94 rfl (lv_at hl 1 rfl) ?_
      obtain ⟨ht_, hf_⟩ := h
      refine lv_if_ge (tgt := 102) X.1 X.2.1 dX9_part_95 (by decide) (fun c_ => ?_) (fun c_ => ?_)
      · have h := ht_ c_
        refine lv_iconst (v := (2 : Int32)) X.1 X.2.1 dX9_part_102 (by decide) ?_
        exact bX9_part_103 X hr hlk M_1 x1 (2 : Int32) _ _ _ h hw (lv_sub hl [0, 1] rfl)
      · have h := hf_ c_
        refine lv_iconst (v := (1 : Int32)) X.1 X.2.1 dX9_part_98 (by decide) ?_
        refine lv_goto (tgt := 103) X.1 X.2.1 dX9_part_99 (by decide) ?_
        exact bX9_part_103 X hr hlk M_1 x1 (1 : Int32) _ _ _ h hw (lv_sub hl [0, 1] rfl)
    · have h := hf_ c_
      refine lv_aload_n X.1 X.2.1 dX9_part_77 rfl (lv_at hl 0 rfl) ?_
      refine lv_dup X.1 X.2.1 dX9_part_78 rfl ?_
      refine r_gf X inX9_part_X9 hw 0 rfl rfl 18 (by decide) (X.2.2.2.2 (.fieldLink RX9 222 "TestHallModel" "deep" "I") (by decide +kernel)) rfl rfl dX9_part_79 ?_
      refine lv_iconst (v := (1 : Int32)) X.1 X.2.1 dX9_part_82 (by decide) ?_
      refine lv_iadd X.1 X.2.1 dX9_part_83 ?_
      refine r_pf (ty := .int) (w' := mw κ η (sI M_1 18 ((gI M_1 18) + (1 : Int32)))) X inX9_part_X9 tyX9_ok nmX9 hw 0 rfl rfl 18 (by decide) (X.2.2.2.2 (.fieldLink RX9 222 "TestHallModel" "deep" "I") (by decide +kernel)) rfl rfl (by decide +kernel) rfl rfl (Nat.le_of_ble_eq_true rfl) rfl dX9_part_84 (fun H locs hw => ?_)
      obtain ⟨M_3, eM_3⟩ : ∃ y : Sg, y = sI M_1 18 ((gI M_1 18) + (1 : Int32)) := ⟨_, rfl⟩
      rw [← eM_3] at hw
      have h := h M_3 eM_3
      refine lv_aload_n X.1 X.2.1 dX9_part_87 rfl (lv_at hl 0 rfl) ?_
      refine r_Vv (As := []) (rest := []) X cN_ok (kX9_opens h) (cwV 0 X.2.2.2.2 gX9_part_X9_opens rfl rfl rfl (by decide +kernel) ⟨Nat.le_of_ble_eq_true rfl, Nat.le_of_ble_eq_true rfl⟩) hw 0 8 rfl rfl rfl hl.1 rfl (Nat.le_of_ble_eq_true rfl) dX9_part_88 (fun M_4 H locs h hw => ?_)
      refine lv_iconst (v := (1 : Int32)) X.1 X.2.1 dX9_part_91 (by decide) ?_
      exact r_zret X hr hlk hw rfl h dX9_part_92
  · have h := hf_ c_
    refine lv_iconst (v := (0 : Int32)) X.1 X.2.1 dX9_part_66 (by decide) ?_
    exact r_zret X hr hlk hw rfl h dX9_part_67
def vX9_part_46 (Q : Sg → Int32 → Prop) (M : Sg) (x1 : Int32) : Prop := ((¬ (gI M 18) = (5 : Int32) → (vX9_part_59 Q M x1)) ∧ ((gI M 18) = (5 : Int32) → (wX9_wrong M (5 : Int32) (fun M_1 => (vX9_part_59 Q M_1 x1)))))
set_option maxHeartbeats 4000000 in
set_option maxRecDepth 100000 in
theorem bX9_part_46 {p : Program} {l : Launch} {e : Env} {s : State} {m : MethodId} {args : Array Value} {below : List Frame} {meth : Method} {c : Code} {D : va_G} {κ : Nat → ClassId} {η : Nat → Nat} {σ : (Nat → Nat) × (Nat → Nat)} {A : Nat → Prop} {Q : Sg → Int32 → Prop} (X : CallFix p m c cX9_part 2 s args wsX9_part RX9) (hr : meth.sig.returnType = (some .boolean)) (hlk : meth.locks = false) : ∀ (M : Sg) (x1 : Int32) (H : Heap) (locs : List Loc) (ls : Array Slot), vX9_part_46 Q M x1 → Wd (cN σ) D (Ky κ) A s (mw κ η M) H locs → lv_has ls 2 [(0, .ref (η 0)), (1, .int x1)] → W p l e rmX9_part s m args below meth c H locs 0 0 (MQ below (Qi D (Ky κ) (mw κ η) A Q) args s 0 0 A) (F0 m 46 ls []) := by
  intro M x1 H locs ls h hw hl
  refine lv_aload_n X.1 X.2.1 dX9_part_46 rfl (lv_at hl 0 rfl) ?_
  refine r_gf X inX9_part_X9 hw 0 rfl rfl 18 (by decide) (X.2.2.2.2 (.fieldLink RX9 222 "TestHallModel" "deep" "I") (by decide +kernel)) rfl rfl dX9_part_47 ?_
  refine lv_iconst (v := (5 : Int32)) X.1 X.2.1 dX9_part_50 (by decide) ?_
  obtain ⟨ht_, hf_⟩ := h
  refine lv_icmp_ne (tgt := 59) X.1 X.2.1 dX9_part_51 (by decide) (fun c_ => ?_) (fun c_ => ?_)
  · have h := ht_ c_
    exact bX9_part_59 X hr hlk M x1 _ _ _ h hw (lv_sub hl [0, 1] rfl)
  · have h := hf_ c_
    refine lv_aload_n X.1 X.2.1 dX9_part_54 rfl (lv_at hl 0 rfl) ?_
    refine lv_iconst (v := (5 : Int32)) X.1 X.2.1 dX9_part_55 (by decide) ?_
    refine r_Vv (As := [.int (5 : Int32)]) (rest := []) X cN_ok (kX9_wrong h) (cwV 1 X.2.2.2.2 gX9_part_X9_wrong rfl rfl rfl (by decide +kernel) ⟨Nat.le_of_ble_eq_true rfl, Nat.le_of_ble_eq_true rfl⟩) hw 0 8 rfl rfl rfl hl.1 rfl (Nat.le_of_ble_eq_true rfl) dX9_part_56 (fun M_1 H locs h hw => ?_)
    exact bX9_part_59 X hr hlk M_1 x1 _ _ _ h hw (lv_sub hl [0, 1] rfl)
def wX9_part (M : Sg) (Q : Sg → Int32 → Prop) : Prop := (wX9_partWord M (fun M_1 r_2 => ((¬ (gI M_1 8) = 0 → (vX9_part_46 Q M_1 r_2)) ∧ ((gI M_1 8) = 0 → (vp_in (gI M_1 7) 602 ∧ (((gA M_1 4 (gI M_1 7).toNatClampNeg) = (2 : Int32) → (vX9_part_46 Q M_1 r_2)) ∧ (¬ (gA M_1 4 (gI M_1 7).toNatClampNeg) = (2 : Int32) → (wX9_isSign M_1 (40 : Int32) (fun M_3 r_4 => ((¬ r_4 = 0 → (vX9_part_46 Q M_3 r_2)) ∧ (r_4 = 0 → ((0 ≤ r_2 → (vX9_part_46 Q M_3 r_2)) ∧ (¬ 0 ≤ r_2 → (wX9_wrong M_3 (1 : Int32) (fun M_5 => (vX9_part_59 Q M_5 r_2))))))))))))))))
set_option maxHeartbeats 4000000 in
set_option maxRecDepth 100000 in
theorem kX9_part {l : Launch} {D : va_G} {κ : Nat → ClassId} {η : Nat → Nat} {σ : (Nat → Nat) × (Nat → Nat)} {M : Sg} {Q : Sg → Int32 → Prop} (h : wX9_part M Q) : Ki (cN σ) D (Ky κ) (mw κ η) l yX9_part wsX9_part rmX9_part [.ref (η 0)] M Q := by
  refine ofW_g (Qc := fun A => Qi D (Ky κ) (mw κ η) A Q) (cc := cX9_part) (maxL := 2) (ret := (some .boolean)) (by decide) rfl (Nat.le_of_ble_eq_true rfl) ?_
  intro p e s m args below meth c A ls X hr hlk hw hl
  have hl : lv_has ls 2 [(0, .ref (η 0))] := hl
  refine lv_aload_n X.1 X.2.1 dX9_part_0 rfl (lv_at hl 0 rfl) ?_
  refine r_Vi (As := []) (rest := []) X cN_ok (kX9_partWord h) (cwV 0 X.2.2.2.2 gX9_part_X9_partWord rfl rfl rfl (by decide +kernel) ⟨Nat.le_of_ble_eq_true rfl, Nat.le_of_ble_eq_true rfl⟩) hw 0 8 rfl rfl rfl hl.1 rfl (Nat.le_of_ble_eq_true rfl) dX9_part_1 (fun r_2 M_1 H locs h hw => ?_)
  refine lv_istore_n (lv' := [(1, .int r_2), (0, .ref (η 0))]) X.1 X.2.1 dX9_part_4 rfl hl (by decide) rfl (fun ls hl => ?_)
  refine lv_aload_n X.1 X.2.1 dX9_part_5 rfl (lv_at hl 1 rfl) ?_
  refine r_gf X inX9_part_X9 hw 0 rfl rfl 8 (by decide) (X.2.2.2.2 (.fieldLink RX9 186 "TestHallModel" "fault" "I") (by decide +kernel)) rfl rfl dX9_part_6 ?_
  obtain ⟨ht_, hf_⟩ := h
  refine lv_if_ne (tgt := 46) X.1 X.2.1 dX9_part_9 (by decide) (fun c_ => ?_) (fun c_ => ?_)
  · have h := ht_ c_
    exact bX9_part_46 X hr hlk M_1 r_2 _ _ _ h hw (lv_sub hl [1, 0] rfl)
  · have h := hf_ c_
    refine lv_aload_n X.1 X.2.1 dX9_part_12 rfl (lv_at hl 1 rfl) ?_
    refine r_gf X inX9_part_X9 hw 0 rfl rfl 4 (by decide) (X.2.2.2.2 (.fieldLink RX9 24 "TestHallModel" "sort" "[I") (by decide +kernel)) rfl rfl dX9_part_13 ?_
    refine lv_aload_n X.1 X.2.1 dX9_part_16 rfl (lv_at hl 1 rfl) ?_
    refine r_gf X inX9_part_X9 hw 0 rfl rfl 7 (by decide) (X.2.2.2.2 (.fieldLink RX9 183 "TestHallModel" "at" "I") (by decide +kernel)) rfl rfl dX9_part_17 ?_
    obtain ⟨hi_, h⟩ := h
    refine r_ial X hw 2 0 rfl rfl hi_ dX9_part_20 ?_
    refine lv_iconst (v := (2 : Int32)) X.1 X.2.1 dX9_part_21 (by decide) ?_
    obtain ⟨ht_, hf_⟩ := h
    refine lv_icmp_eq (tgt := 46) X.1 X.2.1 dX9_part_22 (by decide) (fun c_ => ?_) (fun c_ => ?_)
    · have h := ht_ c_
      exact bX9_part_46 X hr hlk M_1 r_2 _ _ _ h hw (lv_sub hl [1, 0] rfl)
    · have h := hf_ c_
      refine lv_aload_n X.1 X.2.1 dX9_part_25 rfl (lv_at hl 1 rfl) ?_
      refine lv_bipush (v := (40 : Int32)) X.1 X.2.1 dX9_part_26 (by decide) ?_
      refine r_Vi (As := [.int (40 : Int32)]) (rest := []) X cN_ok (kX9_isSign h) (cwV 1 X.2.2.2.2 gX9_part_X9_isSign rfl rfl rfl (by decide +kernel) ⟨Nat.le_of_ble_eq_true rfl, Nat.le_of_ble_eq_true rfl⟩) hw 0 8 rfl rfl rfl hl.1 rfl (Nat.le_of_ble_eq_true rfl) dX9_part_28 (fun r_4 M_3 H locs h hw => ?_)
      obtain ⟨ht_, hf_⟩ := h
      refine lv_if_ne (tgt := 46) X.1 X.2.1 dX9_part_31 (by decide) (fun c_ => ?_) (fun c_ => ?_)
      · have h := ht_ c_
        exact bX9_part_46 X hr hlk M_3 r_2 _ _ _ h hw (lv_sub hl [1, 0] rfl)
      · have h := hf_ c_
        refine lv_iload_n X.1 X.2.1 dX9_part_34 rfl (lv_at hl 0 rfl) ?_
        obtain ⟨ht_, hf_⟩ := h
        refine lv_if_ge (tgt := 46) X.1 X.2.1 dX9_part_35 (by decide) (fun c_ => ?_) (fun c_ => ?_)
        · have h := ht_ c_
          exact bX9_part_46 X hr hlk M_3 r_2 _ _ _ h hw (lv_sub hl [1, 0] rfl)
        · have h := hf_ c_
          refine lv_aload_n X.1 X.2.1 dX9_part_38 rfl (lv_at hl 1 rfl) ?_
          refine lv_iconst (v := (1 : Int32)) X.1 X.2.1 dX9_part_39 (by decide) ?_
          refine r_Vv (As := [.int (1 : Int32)]) (rest := []) X cN_ok (kX9_wrong h) (cwV 1 X.2.2.2.2 gX9_part_X9_wrong rfl rfl rfl (by decide +kernel) ⟨Nat.le_of_ble_eq_true rfl, Nat.le_of_ble_eq_true rfl⟩) hw 0 8 rfl rfl rfl hl.1 rfl (Nat.le_of_ble_eq_true rfl) dX9_part_40 (fun M_5 H locs h hw => ?_)
          refine lv_goto (tgt := 59) X.1 X.2.1 dX9_part_43 (by decide) ?_
          exact bX9_part_59 X hr hlk M_5 r_2 _ _ _ h hw (lv_sub hl [1, 0] rfl)

theorem inX9_line_X9 : ∀ w ∈ wsX90, w ∈ wsX9_line := fun w h => List.mem_cons_of_mem _ (List.mem_append_right _ h)
abbrev rmX9_line : Room := { frames := 3, cells := 0, slots := 0, locals := 64 }
def vX9_line_219 (Q : Sg → Prop) (M : Sg) : Prop := (wX9_emit M (0 : Int32) (0 : Int32) (fun M_1 => (wX9_takeSign M_1 (59 : Int32) (fun M_3 => (vp_in (gI M_3 16) 2 ∧ (vp_in (gI M_3 16) 2 ∧ (∀ (M_5 : Sg), M_5 = sA M_3 10 (gI M_3 16).toNatClampNeg ((gA M_3 10 (gI M_3 16).toNatClampNeg) + (1 : Int32)) → (Q M_5))))))))
set_option maxHeartbeats 4000000 in
set_option maxRecDepth 100000 in
theorem bX9_line_219 {p : Program} {l : Launch} {e : Env} {s : State} {m : MethodId} {args : Array Value} {below : List Frame} {meth : Method} {c : Code} {D : va_G} {κ : Nat → ClassId} {η : Nat → Nat} {σ : (Nat → Nat) × (Nat → Nat)} {A : Nat → Prop} {Q : Sg → Prop} (X : CallFix p m c cX9_line 3 s args wsX9_line RX9) (hr : meth.sig.returnType = none) (hlk : meth.locks = false) : ∀ (M : Sg) (H : Heap) (locs : List Loc) (ls : Array Slot), vX9_line_219 Q M → Wd (cN σ) D (Ky κ) A s (mw κ η M) H locs → lv_has ls 3 [(0, .ref (η 0))] → W p l e rmX9_line s m args below meth c H locs 0 0 (MQ below (Qv D (Ky κ) (mw κ η) A Q) args s 0 0 A) (F0 m 219 ls []) := by
  intro M H locs ls h hw hl
  refine lv_aload_n X.1 X.2.1 dX9_line_219 rfl (lv_at hl 0 rfl) ?_
  refine lv_iconst (v := (0 : Int32)) X.1 X.2.1 dX9_line_220 (by decide) ?_
  refine lv_iconst (v := (0 : Int32)) X.1 X.2.1 dX9_line_221 (by decide) ?_
  refine r_Vv (As := [.int (0 : Int32), .int (0 : Int32)]) (rest := []) X cN_ok (kX9_emit h) (cwV 2 X.2.2.2.2 gX9_line_X9_emit rfl rfl rfl (by decide +kernel) ⟨Nat.le_of_ble_eq_true rfl, Nat.le_of_ble_eq_true rfl⟩) hw 0 8 rfl rfl rfl hl.1 rfl (Nat.le_of_ble_eq_true rfl) dX9_line_222 (fun M_1 H locs h hw => ?_)
  refine lv_aload_n X.1 X.2.1 dX9_line_225 rfl (lv_at hl 0 rfl) ?_
  refine lv_bipush (v := (59 : Int32)) X.1 X.2.1 dX9_line_226 (by decide) ?_
  refine r_Vv (As := [.int (59 : Int32)]) (rest := []) X cN_ok (kX9_takeSign h) (cwV 1 X.2.2.2.2 gX9_line_X9_takeSign rfl rfl rfl (by decide +kernel) ⟨Nat.le_of_ble_eq_true rfl, Nat.le_of_ble_eq_true rfl⟩) hw 0 8 rfl rfl rfl hl.1 rfl (Nat.le_of_ble_eq_true rfl) dX9_line_228 (fun M_3 H locs h hw => ?_)
  refine lv_aload_n X.1 X.2.1 dX9_line_231 rfl (lv_at hl 0 rfl) ?_
  refine r_gf X inX9_line_X9 hw 0 rfl rfl 10 (by decide) (X.2.2.2.2 (.fieldLink RX9 55 "TestHallModel" "lines" "[I") (by decide +kernel)) rfl rfl dX9_line_232 ?_
  refine lv_aload_n X.1 X.2.1 dX9_line_235 rfl (lv_at hl 0 rfl) ?_
  refine r_gf X inX9_line_X9 hw 0 rfl rfl 16 (by decide) (X.2.2.2.2 (.fieldLink RX9 202 "TestHallModel" "next" "I") (by decide +kernel)) rfl rfl dX9_line_236 ?_
  refine lv_dup2_11 X.1 X.2.1 dX9_line_239 rfl rfl ?_
  obtain ⟨hi_, h⟩ := h
  refine r_ial X hw 6 0 rfl rfl hi_ dX9_line_240 ?_
  refine lv_iconst (v := (1 : Int32)) X.1 X.2.1 dX9_line_241 (by decide) ?_
  refine lv_iadd X.1 X.2.1 dX9_line_242 ?_
  obtain ⟨hi_, h⟩ := h
  refine r_ias (w' := mw κ η (sA M_3 10 (gI M_3 16).toNatClampNeg ((gA M_3 10 (gI M_3 16).toNatClampNeg) + (1 : Int32)))) X hw 6 0 rfl rfl hi_ rfl dX9_line_243 (fun H locs hw => ?_)
  obtain ⟨M_5, eM_5⟩ : ∃ y : Sg, y = sA M_3 10 (gI M_3 16).toNatClampNeg ((gA M_3 10 (gI M_3 16).toNatClampNeg) + (1 : Int32)) := ⟨_, rfl⟩
  rw [← eM_5] at hw
  have h := h M_5 eM_5
  exact r_vret X hr hlk hw h dX9_line_244
def vX9_line_215 (K185 : Sg → Int32 → Prop) (Q : Sg → Prop) (M : Sg) (s0 : Int32) : Prop := (K185 M s0)
set_option maxHeartbeats 4000000 in
set_option maxRecDepth 100000 in
theorem bX9_line_215 {p : Program} {l : Launch} {e : Env} {s : State} {m : MethodId} {args : Array Value} {below : List Frame} {meth : Method} {c : Code} {D : va_G} {κ : Nat → ClassId} {η : Nat → Nat} {σ : (Nat → Nat) × (Nat → Nat)} {A : Nat → Prop} {Q : Sg → Prop} {K185 : Sg → Int32 → Prop} (X : CallFix p m c cX9_line 3 s args wsX9_line RX9) (hr : meth.sig.returnType = none) (hlk : meth.locks = false) (hK185 : ∀ (M : Sg) (x2 : Int32) (H : Heap) (locs : List Loc) (ls : Array Slot), K185 M x2 → Wd (cN σ) D (Ky κ) A s (mw κ η M) H locs → lv_has ls 3 [(0, .ref (η 0)), (2, .int x2)] → W p l e rmX9_line s m args below meth c H locs 0 0 (MQ below (Qv D (Ky κ) (mw κ η) A Q) args s 0 0 A) (F0 m 185 ls [])) : ∀ (M : Sg) (s0 : Int32) (H : Heap) (locs : List Loc) (ls : Array Slot), vX9_line_215 K185 Q M s0 → Wd (cN σ) D (Ky κ) A s (mw κ η M) H locs → lv_has ls 3 [(0, .ref (η 0))] → W p l e rmX9_line s m args below meth c H locs 0 0 (MQ below (Qv D (Ky κ) (mw κ η) A Q) args s 0 0 A) (F0 m 215 ls [.int s0]) := by
  intro M s0 H locs ls h hw hl
  refine lv_istore_n (lv' := [(2, .int s0), (0, .ref (η 0))]) X.1 X.2.1 dX9_line_215 rfl hl (by decide) rfl (fun ls hl => ?_)
  refine lv_goto (tgt := 185) X.1 X.2.1 dX9_line_216 (by decide) ?_
  exact hK185 M s0 _ _ _ h hw (lv_sub hl [1, 0] rfl)
def vX9_line_210 (K185 : Sg → Int32 → Prop) (Q : Sg → Prop) (M : Sg) : Prop := (vX9_line_215 K185 Q M (1 : Int32))
set_option maxHeartbeats 4000000 in
set_option maxRecDepth 100000 in
theorem bX9_line_210 {p : Program} {l : Launch} {e : Env} {s : State} {m : MethodId} {args : Array Value} {below : List Frame} {meth : Method} {c : Code} {D : va_G} {κ : Nat → ClassId} {η : Nat → Nat} {σ : (Nat → Nat) × (Nat → Nat)} {A : Nat → Prop} {Q : Sg → Prop} {K185 : Sg → Int32 → Prop} (X : CallFix p m c cX9_line 3 s args wsX9_line RX9) (hr : meth.sig.returnType = none) (hlk : meth.locks = false) (hK185 : ∀ (M : Sg) (x2 : Int32) (H : Heap) (locs : List Loc) (ls : Array Slot), K185 M x2 → Wd (cN σ) D (Ky κ) A s (mw κ η M) H locs → lv_has ls 3 [(0, .ref (η 0)), (2, .int x2)] → W p l e rmX9_line s m args below meth c H locs 0 0 (MQ below (Qv D (Ky κ) (mw κ η) A Q) args s 0 0 A) (F0 m 185 ls [])) : ∀ (M : Sg) (H : Heap) (locs : List Loc) (ls : Array Slot), vX9_line_210 K185 Q M → Wd (cN σ) D (Ky κ) A s (mw κ η M) H locs → lv_has ls 3 [(0, .ref (η 0))] → W p l e rmX9_line s m args below meth c H locs 0 0 (MQ below (Qv D (Ky κ) (mw κ η) A Q) args s 0 0 A) (F0 m 210 ls []) := by
  intro M H locs ls h hw hl
  refine lv_iconst (v := (1 : Int32)) X.1 X.2.1 dX9_line_210 (by decide) ?_
  refine lv_goto (tgt := 215) X.1 X.2.1 dX9_line_211 (by decide) ?_
  exact bX9_line_215 X hr hlk hK185 M (1 : Int32) _ _ _ h hw (lv_sub hl [0] rfl)
def vX9_line_185 (Q : Sg → Prop) : Nat → Sg → Int32 → Prop
  | 0, _, _ => False
  | f185_ + 1, M, x2 => ((x2 = 0 → (vX9_line_219 Q M)) ∧ (¬ x2 = 0 → ((¬ (gI M 8) = 0 → (vX9_line_219 Q M)) ∧ ((gI M 8) = 0 → (wX9_part M (fun M_1 r_2 => ((¬ r_2 = 0 → (vX9_line_210 (vX9_line_185 Q f185_) Q M_1)) ∧ (r_2 = 0 → (wX9_goesOnBehind M_1 (fun M_3 r_4 => ((r_4 = 0 → (vX9_line_215 (vX9_line_185 Q f185_) Q M_3 (0 : Int32))) ∧ (¬ r_4 = 0 → (vX9_line_210 (vX9_line_185 Q f185_) Q M_3)))))))))))))
set_option maxHeartbeats 4000000 in
set_option maxRecDepth 100000 in
theorem bX9_line_185 {p : Program} {l : Launch} {e : Env} {s : State} {m : MethodId} {args : Array Value} {below : List Frame} {meth : Method} {c : Code} {D : va_G} {κ : Nat → ClassId} {η : Nat → Nat} {σ : (Nat → Nat) × (Nat → Nat)} {A : Nat → Prop} {Q : Sg → Prop} (X : CallFix p m c cX9_line 3 s args wsX9_line RX9) (hr : meth.sig.returnType = none) (hlk : meth.locks = false) : ∀ (f_ : Nat) (M : Sg) (x2 : Int32) (H : Heap) (locs : List Loc) (ls : Array Slot), vX9_line_185 Q f_ M x2 → Wd (cN σ) D (Ky κ) A s (mw κ η M) H locs → lv_has ls 3 [(0, .ref (η 0)), (2, .int x2)] → W p l e rmX9_line s m args below meth c H locs 0 0 (MQ below (Qv D (Ky κ) (mw κ η) A Q) args s 0 0 A) (F0 m 185 ls []) := by
  intro f_
  induction f_ with
  | zero => intro M x2 H locs ls h; exact h.elim
  | succ f_ hK185 =>
    intro M x2 H locs ls h hw hl
    refine lv_iload_n X.1 X.2.1 dX9_line_185 rfl (lv_at hl 1 rfl) ?_
    obtain ⟨ht_, hf_⟩ := h
    refine lv_if_eq (tgt := 219) X.1 X.2.1 dX9_line_186 (by decide) (fun c_ => ?_) (fun c_ => ?_)
    · have h := ht_ c_
      exact bX9_line_219 X hr hlk M _ _ _ h hw (lv_sub hl [0] rfl)
    · have h := hf_ c_
      refine lv_aload_n X.1 X.2.1 dX9_line_189 rfl (lv_at hl 0 rfl) ?_
      refine r_gf X inX9_line_X9 hw 0 rfl rfl 8 (by decide) (X.2.2.2.2 (.fieldLink RX9 186 "TestHallModel" "fault" "I") (by decide +kernel)) rfl rfl dX9_line_190 ?_
      obtain ⟨ht_, hf_⟩ := h
      refine lv_if_ne (tgt := 219) X.1 X.2.1 dX9_line_193 (by decide) (fun c_ => ?_) (fun c_ => ?_)
      · have h := ht_ c_
        exact bX9_line_219 X hr hlk M _ _ _ h hw (lv_sub hl [0] rfl)
      · have h := hf_ c_
        refine lv_aload_n X.1 X.2.1 dX9_line_196 rfl (lv_at hl 0 rfl) ?_
        refine r_Vi (As := []) (rest := []) X cN_ok (kX9_part h) (cwV 0 X.2.2.2.2 gX9_line_X9_part rfl rfl rfl (by decide +kernel) ⟨Nat.le_of_ble_eq_true rfl, Nat.le_of_ble_eq_true rfl⟩) hw 0 8 rfl rfl rfl hl.1 rfl (Nat.le_of_ble_eq_true rfl) dX9_line_197 (fun r_2 M_1 H locs h hw => ?_)
        obtain ⟨ht_, hf_⟩ := h
        refine lv_if_ne (tgt := 210) X.1 X.2.1 dX9_line_200 (by decide) (fun c_ => ?_) (fun c_ => ?_)
        · have h := ht_ c_
          exact bX9_line_210 X hr hlk hK185 M_1 _ _ _ h hw (lv_sub hl [0] rfl)
        · have h := hf_ c_
          refine lv_aload_n X.1 X.2.1 dX9_line_203 rfl (lv_at hl 0 rfl) ?_
          refine r_Vi (As := []) (rest := []) X cN_ok (kX9_goesOnBehind h) (cwV 0 X.2.2.2.2 gX9_line_X9_goesOnBehind rfl rfl rfl (by decide +kernel) ⟨Nat.le_of_ble_eq_true rfl, Nat.le_of_ble_eq_true rfl⟩) hw 0 8 rfl rfl rfl hl.1 rfl (Nat.le_of_ble_eq_true rfl) dX9_line_204 (fun r_4 M_3 H locs h hw => ?_)
          obtain ⟨ht_, hf_⟩ := h
          refine lv_if_eq (tgt := 214) X.1 X.2.1 dX9_line_207 (by decide) (fun c_ => ?_) (fun c_ => ?_)
          · have h := ht_ c_
            refine lv_iconst (v := (0 : Int32)) X.1 X.2.1 dX9_line_214 (by decide) ?_
            exact bX9_line_215 X hr hlk hK185 M_3 (0 : Int32) _ _ _ h hw (lv_sub hl [0] rfl)
          · have h := hf_ c_
            exact bX9_line_210 X hr hlk hK185 M_3 _ _ _ h hw (lv_sub hl [0] rfl)
def vX9_line_139 (Q : Sg → Prop) (M : Sg) (x1 : Int32) (s0 : Int32) (s1 : Int32) : Prop := (vp_in s1 32 ∧ (∀ (M_1 : Sg), M_1 = sA M 11 s1.toNatClampNeg s0 → (∀ (M_2 : Sg), M_2 = sI M_1 7 ((gI M_1 7) + (1 : Int32)) → (wX9_takeWord M_2 (1 : Int32) (fun M_3 => (vp_in x1 32 ∧ (∀ (M_5 : Sg), M_5 = sA M_3 12 x1.toNatClampNeg (((660 : Int32) * (gI M_3 16)) + (gI M_3 17)) → (∀ (M_6 : Sg), M_6 = sI M_5 18 (0 : Int32) → (wX9_opens M_6 (fun M_7 => (∃ g185_ : Nat, vX9_line_185 Q g185_ M_7 (1 : Int32))))))))))))
set_option maxHeartbeats 4000000 in
set_option maxRecDepth 100000 in
theorem bX9_line_139 {p : Program} {l : Launch} {e : Env} {s : State} {m : MethodId} {args : Array Value} {below : List Frame} {meth : Method} {c : Code} {D : va_G} {κ : Nat → ClassId} {η : Nat → Nat} {σ : (Nat → Nat) × (Nat → Nat)} {A : Nat → Prop} {Q : Sg → Prop} (X : CallFix p m c cX9_line 3 s args wsX9_line RX9) (hr : meth.sig.returnType = none) (hlk : meth.locks = false) : ∀ (M : Sg) (x1 : Int32) (s0 : Int32) (s1 : Int32) (H : Heap) (locs : List Loc) (ls : Array Slot), vX9_line_139 Q M x1 s0 s1 → Wd (cN σ) D (Ky κ) A s (mw κ η M) H locs → lv_has ls 3 [(0, .ref (η 0)), (1, .int x1)] → W p l e rmX9_line s m args below meth c H locs 0 0 (MQ below (Qv D (Ky κ) (mw κ η) A Q) args s 0 0 A) (F0 m 139 ls [.int s0, .int s1, .ref (η 7)]) := by
  intro M x1 s0 s1 H locs ls h hw hl
  obtain ⟨hi_, h⟩ := h
  refine r_ias (w' := mw κ η (sA M 11 s1.toNatClampNeg s0)) X hw 7 0 rfl rfl hi_ rfl dX9_line_139 (fun H locs hw => ?_)
  obtain ⟨M_1, eM_1⟩ : ∃ y : Sg, y = sA M 11 s1.toNatClampNeg s0 := ⟨_, rfl⟩
  rw [← eM_1] at hw
  have h := h M_1 eM_1
  refine lv_aload_n X.1 X.2.1 dX9_line_140 rfl (lv_at hl 0 rfl) ?_
  refine lv_dup X.1 X.2.1 dX9_line_141 rfl ?_
  refine r_gf X inX9_line_X9 hw 0 rfl rfl 7 (by decide) (X.2.2.2.2 (.fieldLink RX9 183 "TestHallModel" "at" "I") (by decide +kernel)) rfl rfl dX9_line_142 ?_
  refine lv_iconst (v := (1 : Int32)) X.1 X.2.1 dX9_line_145 (by decide) ?_
  refine lv_iadd X.1 X.2.1 dX9_line_146 ?_
  refine r_pf (ty := .int) (w' := mw κ η (sI M_1 7 ((gI M_1 7) + (1 : Int32)))) X inX9_line_X9 tyX9_ok nmX9 hw 0 rfl rfl 7 (by decide) (X.2.2.2.2 (.fieldLink RX9 183 "TestHallModel" "at" "I") (by decide +kernel)) rfl rfl (by decide +kernel) rfl rfl (Nat.le_of_ble_eq_true rfl) rfl dX9_line_147 (fun H locs hw => ?_)
  obtain ⟨M_2, eM_2⟩ : ∃ y : Sg, y = sI M_1 7 ((gI M_1 7) + (1 : Int32)) := ⟨_, rfl⟩
  rw [← eM_2] at hw
  have h := h M_2 eM_2
  refine lv_aload_n X.1 X.2.1 dX9_line_150 rfl (lv_at hl 0 rfl) ?_
  refine lv_iconst (v := (1 : Int32)) X.1 X.2.1 dX9_line_151 (by decide) ?_
  refine r_Vv (As := [.int (1 : Int32)]) (rest := []) X cN_ok (kX9_takeWord h) (cwV 1 X.2.2.2.2 gX9_line_X9_takeWord rfl rfl rfl (by decide +kernel) ⟨Nat.le_of_ble_eq_true rfl, Nat.le_of_ble_eq_true rfl⟩) hw 0 8 rfl rfl rfl hl.1 rfl (Nat.le_of_ble_eq_true rfl) dX9_line_152 (fun M_3 H locs h hw => ?_)
  refine lv_aload_n X.1 X.2.1 dX9_line_155 rfl (lv_at hl 0 rfl) ?_
  refine r_gf X inX9_line_X9 hw 0 rfl rfl 12 (by decide) (X.2.2.2.2 (.fieldLink RX9 61 "TestHallModel" "lineAt" "[I") (by decide +kernel)) rfl rfl dX9_line_156 ?_
  refine lv_iload_n X.1 X.2.1 dX9_line_159 rfl (lv_at hl 1 rfl) ?_
  refine lv_sipush (v := (660 : Int32)) X.1 X.2.1 dX9_line_160 (by decide) ?_
  refine lv_aload_n X.1 X.2.1 dX9_line_163 rfl (lv_at hl 0 rfl) ?_
  refine r_gf X inX9_line_X9 hw 0 rfl rfl 16 (by decide) (X.2.2.2.2 (.fieldLink RX9 202 "TestHallModel" "next" "I") (by decide +kernel)) rfl rfl dX9_line_164 ?_
  refine lv_imul X.1 X.2.1 dX9_line_167 ?_
  refine lv_aload_n X.1 X.2.1 dX9_line_168 rfl (lv_at hl 0 rfl) ?_
  refine r_gf X inX9_line_X9 hw 0 rfl rfl 17 (by decide) (X.2.2.2.2 (.fieldLink RX9 205 "TestHallModel" "codes" "I") (by decide +kernel)) rfl rfl dX9_line_169 ?_
  refine lv_iadd X.1 X.2.1 dX9_line_172 ?_
  obtain ⟨hi_, h⟩ := h
  refine r_ias (w' := mw κ η (sA M_3 12 x1.toNatClampNeg (((660 : Int32) * (gI M_3 16)) + (gI M_3 17)))) X hw 8 0 rfl rfl hi_ rfl dX9_line_173 (fun H locs hw => ?_)
  obtain ⟨M_5, eM_5⟩ : ∃ y : Sg, y = sA M_3 12 x1.toNatClampNeg (((660 : Int32) * (gI M_3 16)) + (gI M_3 17)) := ⟨_, rfl⟩
  rw [← eM_5] at hw
  have h := h M_5 eM_5
  refine lv_aload_n X.1 X.2.1 dX9_line_174 rfl (lv_at hl 0 rfl) ?_
  refine lv_iconst (v := (0 : Int32)) X.1 X.2.1 dX9_line_175 (by decide) ?_
  refine r_pf (ty := .int) (w' := mw κ η (sI M_5 18 (0 : Int32))) X inX9_line_X9 tyX9_ok nmX9 hw 0 rfl rfl 18 (by decide) (X.2.2.2.2 (.fieldLink RX9 222 "TestHallModel" "deep" "I") (by decide +kernel)) rfl rfl (by decide +kernel) rfl rfl (Nat.le_of_ble_eq_true rfl) rfl dX9_line_176 (fun H locs hw => ?_)
  obtain ⟨M_6, eM_6⟩ : ∃ y : Sg, y = sI M_5 18 (0 : Int32) := ⟨_, rfl⟩
  rw [← eM_6] at hw
  have h := h M_6 eM_6
  refine lv_aload_n X.1 X.2.1 dX9_line_179 rfl (lv_at hl 0 rfl) ?_
  refine r_Vv (As := []) (rest := []) X cN_ok (kX9_opens h) (cwV 0 X.2.2.2.2 gX9_line_X9_opens rfl rfl rfl (by decide +kernel) ⟨Nat.le_of_ble_eq_true rfl, Nat.le_of_ble_eq_true rfl⟩) hw 0 8 rfl rfl rfl hl.1 rfl (Nat.le_of_ble_eq_true rfl) dX9_line_180 (fun M_7 H locs h hw => ?_)
  refine lv_iconst (v := (1 : Int32)) X.1 X.2.1 dX9_line_183 (by decide) ?_
  refine lv_istore_n (lv' := [(2, .int (1 : Int32)), (0, .ref (η 0)), (1, .int x1)]) X.1 X.2.1 dX9_line_184 rfl hl (by decide) rfl (fun ls hl => ?_)
  obtain ⟨f_, h⟩ := h
  exact bX9_line_185 X hr hlk f_ M_7 (1 : Int32) _ _ _ h hw (lv_sub hl [1, 0] rfl)
def vX9_line_113 (Q : Sg → Prop) (M : Sg) (x1 : Int32) : Prop := (((gI M 8) ≤ 0 → (vp_in (gI M 7) 602 ∧ (vX9_line_139 Q M x1 ((gJ M 6 (gI M 7).toNatClampNeg).toInt32) x1))) ∧ (¬ (gI M 8) ≤ 0 → (vX9_line_139 Q M x1 (0 : Int32) x1)))
set_option maxHeartbeats 4000000 in
set_option maxRecDepth 100000 in
theorem bX9_line_113 {p : Program} {l : Launch} {e : Env} {s : State} {m : MethodId} {args : Array Value} {below : List Frame} {meth : Method} {c : Code} {D : va_G} {κ : Nat → ClassId} {η : Nat → Nat} {σ : (Nat → Nat) × (Nat → Nat)} {A : Nat → Prop} {Q : Sg → Prop} (X : CallFix p m c cX9_line 3 s args wsX9_line RX9) (hr : meth.sig.returnType = none) (hlk : meth.locks = false) : ∀ (M : Sg) (x1 : Int32) (H : Heap) (locs : List Loc) (ls : Array Slot), vX9_line_113 Q M x1 → Wd (cN σ) D (Ky κ) A s (mw κ η M) H locs → lv_has ls 3 [(0, .ref (η 0)), (1, .int x1)] → W p l e rmX9_line s m args below meth c H locs 0 0 (MQ below (Qv D (Ky κ) (mw κ η) A Q) args s 0 0 A) (F0 m 113 ls []) := by
  intro M x1 H locs ls h hw hl
  refine lv_aload_n X.1 X.2.1 dX9_line_113 rfl (lv_at hl 0 rfl) ?_
  refine r_gf X inX9_line_X9 hw 0 rfl rfl 11 (by decide) (X.2.2.2.2 (.fieldLink RX9 58 "TestHallModel" "lineN" "[I") (by decide +kernel)) rfl rfl dX9_line_114 ?_
  refine lv_iload_n X.1 X.2.1 dX9_line_117 rfl (lv_at hl 1 rfl) ?_
  refine lv_aload_n X.1 X.2.1 dX9_line_118 rfl (lv_at hl 0 rfl) ?_
  refine r_gf X inX9_line_X9 hw 0 rfl rfl 8 (by decide) (X.2.2.2.2 (.fieldLink RX9 186 "TestHallModel" "fault" "I") (by decide +kernel)) rfl rfl dX9_line_119 ?_
  obtain ⟨ht_, hf_⟩ := h
  refine lv_if_le (tgt := 129) X.1 X.2.1 dX9_line_122 (by decide) (fun c_ => ?_) (fun c_ => ?_)
  · have h := ht_ c_
    refine lv_aload_n X.1 X.2.1 dX9_line_129 rfl (lv_at hl 0 rfl) ?_
    refine r_gf X inX9_line_X9 hw 0 rfl rfl 6 (by decide) (X.2.2.2.2 (.fieldLink RX9 30 "TestHallModel" "value" "[J") (by decide +kernel)) rfl rfl dX9_line_130 ?_
    refine lv_aload_n X.1 X.2.1 dX9_line_133 rfl (lv_at hl 0 rfl) ?_
    refine r_gf X inX9_line_X9 hw 0 rfl rfl 7 (by decide) (X.2.2.2.2 (.fieldLink RX9 183 "TestHallModel" "at" "I") (by decide +kernel)) rfl rfl dX9_line_134 ?_
    obtain ⟨hi_, h⟩ := h
    refine r_lal X hw 4 3 rfl rfl hi_ dX9_line_137 ?_
    refine lv_l2i (v := (gJ M 6 (gI M 7).toNatClampNeg).toInt32) X.1 X.2.1 dX9_line_138 rfl ?_
    exact bX9_line_139 X hr hlk M x1 ((gJ M 6 (gI M 7).toNatClampNeg).toInt32) x1 _ _ _ h hw (lv_sub hl [0, 1] rfl)
  · have h := hf_ c_
    refine lv_iconst (v := (0 : Int32)) X.1 X.2.1 dX9_line_125 (by decide) ?_
    refine lv_goto (tgt := 139) X.1 X.2.1 dX9_line_126 (by decide) ?_
    exact bX9_line_139 X hr hlk M x1 (0 : Int32) x1 _ _ _ h hw (lv_sub hl [0, 1] rfl)
def vX9_line_35 (Q : Sg → Prop) (M : Sg) : Prop := (((gI M 8) ≤ 0 → (∀ (M_1 : Sg), M_1 = sI M 7 ((gI M 7) + (1 : Int32)) → (vp_in (gI M_1 16) 2 ∧ (∀ (x_2 : Int32), x_2 = (((16 : Int32) * (gI M_1 16)) + (gA M_1 10 (gI M_1 16).toNatClampNeg)) → (vp_in (gI M_1 7) 602 ∧ (((gA M_1 4 (gI M_1 7).toNatClampNeg) = (2 : Int32) → (vp_in (gI M_1 7) 602 ∧ (((lg_cmp (gJ M_1 6 (gI M_1 7).toNatClampNeg) (99 : Int64)) ≤ 0 → (vX9_line_113 Q M_1 x_2)) ∧ (¬ (lg_cmp (gJ M_1 6 (gI M_1 7).toNatClampNeg) (99 : Int64)) ≤ 0 → (wX9_wrong M_1 (4 : Int32) (fun M_3 => (vX9_line_113 Q M_3 x_2))))))) ∧ (¬ (gA M_1 4 (gI M_1 7).toNatClampNeg) = (2 : Int32) → (wX9_wrong M_1 (1 : Int32) (fun M_5 => (vX9_line_113 Q M_5 x_2)))))))))) ∧ (¬ (gI M 8) ≤ 0 → (Q M)))
set_option maxHeartbeats 4000000 in
set_option maxRecDepth 100000 in
theorem bX9_line_35 {p : Program} {l : Launch} {e : Env} {s : State} {m : MethodId} {args : Array Value} {below : List Frame} {meth : Method} {c : Code} {D : va_G} {κ : Nat → ClassId} {η : Nat → Nat} {σ : (Nat → Nat) × (Nat → Nat)} {A : Nat → Prop} {Q : Sg → Prop} (X : CallFix p m c cX9_line 3 s args wsX9_line RX9) (hr : meth.sig.returnType = none) (hlk : meth.locks = false) : ∀ (M : Sg) (H : Heap) (locs : List Loc) (ls : Array Slot), vX9_line_35 Q M → Wd (cN σ) D (Ky κ) A s (mw κ η M) H locs → lv_has ls 3 [(0, .ref (η 0))] → W p l e rmX9_line s m args below meth c H locs 0 0 (MQ below (Qv D (Ky κ) (mw κ η) A Q) args s 0 0 A) (F0 m 35 ls []) := by
  intro M H locs ls h hw hl
  refine lv_aload_n X.1 X.2.1 dX9_line_35 rfl (lv_at hl 0 rfl) ?_
  refine r_gf X inX9_line_X9 hw 0 rfl rfl 8 (by decide) (X.2.2.2.2 (.fieldLink RX9 186 "TestHallModel" "fault" "I") (by decide +kernel)) rfl rfl dX9_line_36 ?_
  obtain ⟨ht_, hf_⟩ := h
  refine lv_if_le (tgt := 43) X.1 X.2.1 dX9_line_39 (by decide) (fun c_ => ?_) (fun c_ => ?_)
  · have h := ht_ c_
    refine lv_aload_n X.1 X.2.1 dX9_line_43 rfl (lv_at hl 0 rfl) ?_
    refine lv_dup X.1 X.2.1 dX9_line_44 rfl ?_
    refine r_gf X inX9_line_X9 hw 0 rfl rfl 7 (by decide) (X.2.2.2.2 (.fieldLink RX9 183 "TestHallModel" "at" "I") (by decide +kernel)) rfl rfl dX9_line_45 ?_
    refine lv_iconst (v := (1 : Int32)) X.1 X.2.1 dX9_line_48 (by decide) ?_
    refine lv_iadd X.1 X.2.1 dX9_line_49 ?_
    refine r_pf (ty := .int) (w' := mw κ η (sI M 7 ((gI M 7) + (1 : Int32)))) X inX9_line_X9 tyX9_ok nmX9 hw 0 rfl rfl 7 (by decide) (X.2.2.2.2 (.fieldLink RX9 183 "TestHallModel" "at" "I") (by decide +kernel)) rfl rfl (by decide +kernel) rfl rfl (Nat.le_of_ble_eq_true rfl) rfl dX9_line_50 (fun H locs hw => ?_)
    obtain ⟨M_1, eM_1⟩ : ∃ y : Sg, y = sI M 7 ((gI M 7) + (1 : Int32)) := ⟨_, rfl⟩
    rw [← eM_1] at hw
    have h := h M_1 eM_1
    refine lv_bipush (v := (16 : Int32)) X.1 X.2.1 dX9_line_53 (by decide) ?_
    refine lv_aload_n X.1 X.2.1 dX9_line_55 rfl (lv_at hl 0 rfl) ?_
    refine r_gf X inX9_line_X9 hw 0 rfl rfl 16 (by decide) (X.2.2.2.2 (.fieldLink RX9 202 "TestHallModel" "next" "I") (by decide +kernel)) rfl rfl dX9_line_56 ?_
    refine lv_imul X.1 X.2.1 dX9_line_59 ?_
    refine lv_aload_n X.1 X.2.1 dX9_line_60 rfl (lv_at hl 0 rfl) ?_
    refine r_gf X inX9_line_X9 hw 0 rfl rfl 10 (by decide) (X.2.2.2.2 (.fieldLink RX9 55 "TestHallModel" "lines" "[I") (by decide +kernel)) rfl rfl dX9_line_61 ?_
    refine lv_aload_n X.1 X.2.1 dX9_line_64 rfl (lv_at hl 0 rfl) ?_
    refine r_gf X inX9_line_X9 hw 0 rfl rfl 16 (by decide) (X.2.2.2.2 (.fieldLink RX9 202 "TestHallModel" "next" "I") (by decide +kernel)) rfl rfl dX9_line_65 ?_
    obtain ⟨hi_, h⟩ := h
    refine r_ial X hw 6 0 rfl rfl hi_ dX9_line_68 ?_
    refine lv_iadd X.1 X.2.1 dX9_line_69 ?_
    refine lv_topi (fun x_2 ex_2 => ?_)
    have h := h x_2 ex_2
    refine lv_istore_n (lv' := [(1, .int x_2), (0, .ref (η 0))]) X.1 X.2.1 dX9_line_70 rfl hl (by decide) rfl (fun ls hl => ?_)
    refine lv_aload_n X.1 X.2.1 dX9_line_71 rfl (lv_at hl 1 rfl) ?_
    refine r_gf X inX9_line_X9 hw 0 rfl rfl 4 (by decide) (X.2.2.2.2 (.fieldLink RX9 24 "TestHallModel" "sort" "[I") (by decide +kernel)) rfl rfl dX9_line_72 ?_
    refine lv_aload_n X.1 X.2.1 dX9_line_75 rfl (lv_at hl 1 rfl) ?_
    refine r_gf X inX9_line_X9 hw 0 rfl rfl 7 (by decide) (X.2.2.2.2 (.fieldLink RX9 183 "TestHallModel" "at" "I") (by decide +kernel)) rfl rfl dX9_line_76 ?_
    obtain ⟨hi_, h⟩ := h
    refine r_ial X hw 2 0 rfl rfl hi_ dX9_line_79 ?_
    refine lv_iconst (v := (2 : Int32)) X.1 X.2.1 dX9_line_80 (by decide) ?_
    obtain ⟨ht_, hf_⟩ := h
    refine lv_icmp_eq (tgt := 92) X.1 X.2.1 dX9_line_81 (by decide) (fun c_ => ?_) (fun c_ => ?_)
    · have h := ht_ c_
      refine lv_aload_n X.1 X.2.1 dX9_line_92 rfl (lv_at hl 1 rfl) ?_
      refine r_gf X inX9_line_X9 hw 0 rfl rfl 6 (by decide) (X.2.2.2.2 (.fieldLink RX9 30 "TestHallModel" "value" "[J") (by decide +kernel)) rfl rfl dX9_line_93 ?_
      refine lv_aload_n X.1 X.2.1 dX9_line_96 rfl (lv_at hl 1 rfl) ?_
      refine r_gf X inX9_line_X9 hw 0 rfl rfl 7 (by decide) (X.2.2.2.2 (.fieldLink RX9 183 "TestHallModel" "at" "I") (by decide +kernel)) rfl rfl dX9_line_97 ?_
      obtain ⟨hi_, h⟩ := h
      refine r_lal X hw 4 3 rfl rfl hi_ dX9_line_100 ?_
      refine lv_ldc2 (v := (99 : Int64)) X.1 X.2.1 X.2.2.2.1 (X.2.2.2.2 _ (by decide +kernel)) dX9_line_101 ?_
      refine W.lcmp X.1 X.2.1 dX9_line_104 ?_
      obtain ⟨ht_, hf_⟩ := h
      refine lv_if_le (tgt := 113) X.1 X.2.1 dX9_line_105 (by decide) (fun c_ => ?_) (fun c_ => ?_)
      · have h := ht_ c_
        exact bX9_line_113 X hr hlk M_1 x_2 _ _ _ h hw (lv_sub hl [1, 0] rfl)
      · have h := hf_ c_
        refine lv_aload_n X.1 X.2.1 dX9_line_108 rfl (lv_at hl 1 rfl) ?_
        refine lv_iconst (v := (4 : Int32)) X.1 X.2.1 dX9_line_109 (by decide) ?_
        refine r_Vv (As := [.int (4 : Int32)]) (rest := []) X cN_ok (kX9_wrong h) (cwV 1 X.2.2.2.2 gX9_line_X9_wrong rfl rfl rfl (by decide +kernel) ⟨Nat.le_of_ble_eq_true rfl, Nat.le_of_ble_eq_true rfl⟩) hw 0 8 rfl rfl rfl hl.1 rfl (Nat.le_of_ble_eq_true rfl) dX9_line_110 (fun M_3 H locs h hw => ?_)
        exact bX9_line_113 X hr hlk M_3 x_2 _ _ _ h hw (lv_sub hl [1, 0] rfl)
    · have h := hf_ c_
      refine lv_aload_n X.1 X.2.1 dX9_line_84 rfl (lv_at hl 1 rfl) ?_
      refine lv_iconst (v := (1 : Int32)) X.1 X.2.1 dX9_line_85 (by decide) ?_
      refine r_Vv (As := [.int (1 : Int32)]) (rest := []) X cN_ok (kX9_wrong h) (cwV 1 X.2.2.2.2 gX9_line_X9_wrong rfl rfl rfl (by decide +kernel) ⟨Nat.le_of_ble_eq_true rfl, Nat.le_of_ble_eq_true rfl⟩) hw 0 8 rfl rfl rfl hl.1 rfl (Nat.le_of_ble_eq_true rfl) dX9_line_86 (fun M_5 H locs h hw => ?_)
      refine lv_goto (tgt := 113) X.1 X.2.1 dX9_line_89 (by decide) ?_
      exact bX9_line_113 X hr hlk M_5 x_2 _ _ _ h hw (lv_sub hl [1, 0] rfl)
  · have h := hf_ c_
    exact r_vret X hr hlk hw h dX9_line_42
def wX9_line (M : Sg) (Q : Sg → Prop) : Prop := (wX9_isWord M (0 : Int32) (fun M_1 r_2 => ((¬ r_2 = 0 → (vp_in (gI M_1 16) 2 ∧ ((¬ (gA M_1 10 (gI M_1 16).toNatClampNeg) = (16 : Int32) → (vX9_line_35 Q M_1)) ∧ ((gA M_1 10 (gI M_1 16).toNatClampNeg) = (16 : Int32) → (wX9_wrong M_1 (5 : Int32) (fun M_3 => (vX9_line_35 Q M_3))))))) ∧ (r_2 = 0 → (wX9_wrong M_1 (1 : Int32) (fun M_5 => (vX9_line_35 Q M_5)))))))
set_option maxHeartbeats 4000000 in
set_option maxRecDepth 100000 in
theorem kX9_line {l : Launch} {D : va_G} {κ : Nat → ClassId} {η : Nat → Nat} {σ : (Nat → Nat) × (Nat → Nat)} {M : Sg} {Q : Sg → Prop} (h : wX9_line M Q) : Kv (cN σ) D (Ky κ) (mw κ η) l yX9_line wsX9_line rmX9_line [.ref (η 0)] M Q := by
  refine ofW_g (Qc := fun A => Qv D (Ky κ) (mw κ η) A Q) (cc := cX9_line) (maxL := 3) (ret := none) (by decide) rfl (Nat.le_of_ble_eq_true rfl) ?_
  intro p e s m args below meth c A ls X hr hlk hw hl
  have hl : lv_has ls 3 [(0, .ref (η 0))] := hl
  refine lv_aload_n X.1 X.2.1 dX9_line_0 rfl (lv_at hl 0 rfl) ?_
  refine lv_iconst (v := (0 : Int32)) X.1 X.2.1 dX9_line_1 (by decide) ?_
  refine r_Vi (As := [.int (0 : Int32)]) (rest := []) X cN_ok (kX9_isWord h) (cwV 1 X.2.2.2.2 gX9_line_X9_isWord rfl rfl rfl (by decide +kernel) ⟨Nat.le_of_ble_eq_true rfl, Nat.le_of_ble_eq_true rfl⟩) hw 0 8 rfl rfl rfl hl.1 rfl (Nat.le_of_ble_eq_true rfl) dX9_line_2 (fun r_2 M_1 H locs h hw => ?_)
  obtain ⟨ht_, hf_⟩ := h
  refine lv_if_ne (tgt := 16) X.1 X.2.1 dX9_line_5 (by decide) (fun c_ => ?_) (fun c_ => ?_)
  · have h := ht_ c_
    refine lv_aload_n X.1 X.2.1 dX9_line_16 rfl (lv_at hl 0 rfl) ?_
    refine r_gf X inX9_line_X9 hw 0 rfl rfl 10 (by decide) (X.2.2.2.2 (.fieldLink RX9 55 "TestHallModel" "lines" "[I") (by decide +kernel)) rfl rfl dX9_line_17 ?_
    refine lv_aload_n X.1 X.2.1 dX9_line_20 rfl (lv_at hl 0 rfl) ?_
    refine r_gf X inX9_line_X9 hw 0 rfl rfl 16 (by decide) (X.2.2.2.2 (.fieldLink RX9 202 "TestHallModel" "next" "I") (by decide +kernel)) rfl rfl dX9_line_21 ?_
    obtain ⟨hi_, h⟩ := h
    refine r_ial X hw 6 0 rfl rfl hi_ dX9_line_24 ?_
    refine lv_bipush (v := (16 : Int32)) X.1 X.2.1 dX9_line_25 (by decide) ?_
    obtain ⟨ht_, hf_⟩ := h
    refine lv_icmp_ne (tgt := 35) X.1 X.2.1 dX9_line_27 (by decide) (fun c_ => ?_) (fun c_ => ?_)
    · have h := ht_ c_
      exact bX9_line_35 X hr hlk M_1 _ _ _ h hw (lv_sub hl [0] rfl)
    · have h := hf_ c_
      refine lv_aload_n X.1 X.2.1 dX9_line_30 rfl (lv_at hl 0 rfl) ?_
      refine lv_iconst (v := (5 : Int32)) X.1 X.2.1 dX9_line_31 (by decide) ?_
      refine r_Vv (As := [.int (5 : Int32)]) (rest := []) X cN_ok (kX9_wrong h) (cwV 1 X.2.2.2.2 gX9_line_X9_wrong rfl rfl rfl (by decide +kernel) ⟨Nat.le_of_ble_eq_true rfl, Nat.le_of_ble_eq_true rfl⟩) hw 0 8 rfl rfl rfl hl.1 rfl (Nat.le_of_ble_eq_true rfl) dX9_line_32 (fun M_3 H locs h hw => ?_)
      exact bX9_line_35 X hr hlk M_3 _ _ _ h hw (lv_sub hl [0] rfl)
  · have h := hf_ c_
    refine lv_aload_n X.1 X.2.1 dX9_line_8 rfl (lv_at hl 0 rfl) ?_
    refine lv_iconst (v := (1 : Int32)) X.1 X.2.1 dX9_line_9 (by decide) ?_
    refine r_Vv (As := [.int (1 : Int32)]) (rest := []) X cN_ok (kX9_wrong h) (cwV 1 X.2.2.2.2 gX9_line_X9_wrong rfl rfl rfl (by decide +kernel) ⟨Nat.le_of_ble_eq_true rfl, Nat.le_of_ble_eq_true rfl⟩) hw 0 8 rfl rfl rfl hl.1 rfl (Nat.le_of_ble_eq_true rfl) dX9_line_10 (fun M_5 H locs h hw => ?_)
    refine lv_goto (tgt := 35) X.1 X.2.1 dX9_line_13 (by decide) ?_
    exact bX9_line_35 X hr hlk M_5 _ _ _ h hw (lv_sub hl [0] rfl)

theorem inX9_text_X9 : ∀ w ∈ wsX90, w ∈ wsX9_text := fun w h => List.mem_cons_of_mem _ (List.mem_append_right _ h)
abbrev rmX9_text : Room := { frames := 4, cells := 0, slots := 0, locals := 86 }
def vX9_text_60 (Q : Sg → Int32 → Prop) (M : Sg) : Prop := ((¬ (gI M 8) = 0 → (Q M (gI M 8))) ∧ ((gI M 8) = 0 → (∀ (M_1 : Sg), M_1 = sI M 15 (gI M 16) → (Q M_1 (gI M_1 8)))))
set_option maxHeartbeats 4000000 in
set_option maxRecDepth 100000 in
theorem bX9_text_60 {p : Program} {l : Launch} {e : Env} {s : State} {m : MethodId} {args : Array Value} {below : List Frame} {meth : Method} {c : Code} {D : va_G} {κ : Nat → ClassId} {η : Nat → Nat} {σ : (Nat → Nat) × (Nat → Nat)} {A : Nat → Prop} {Q : Sg → Int32 → Prop} (X : CallFix p m c cX9_text 1 s args wsX9_text RX9) (hr : meth.sig.returnType = (some .int)) (hlk : meth.locks = false) : ∀ (M : Sg) (H : Heap) (locs : List Loc) (ls : Array Slot), vX9_text_60 Q M → Wd (cN σ) D (Ky κ) A s (mw κ η M) H locs → lv_has ls 1 [(0, .ref (η 0))] → W p l e rmX9_text s m args below meth c H locs 0 0 (MQ below (Qi D (Ky κ) (mw κ η) A Q) args s 0 0 A) (F0 m 60 ls []) := by
  intro M H locs ls h hw hl
  refine lv_aload_n X.1 X.2.1 dX9_text_60 rfl (lv_at hl 0 rfl) ?_
  refine r_gf X inX9_text_X9 hw 0 rfl rfl 8 (by decide) (X.2.2.2.2 (.fieldLink RX9 186 "TestHallModel" "fault" "I") (by decide +kernel)) rfl rfl dX9_text_61 ?_
  obtain ⟨ht_, hf_⟩ := h
  refine lv_if_ne (tgt := 75) X.1 X.2.1 dX9_text_64 (by decide) (fun c_ => ?_) (fun c_ => ?_)
  · have h := ht_ c_
    refine lv_aload_n X.1 X.2.1 dX9_text_75 rfl (lv_at hl 0 rfl) ?_
    refine r_gf X inX9_text_X9 hw 0 rfl rfl 8 (by decide) (X.2.2.2.2 (.fieldLink RX9 186 "TestHallModel" "fault" "I") (by decide +kernel)) rfl rfl dX9_text_76 ?_
    exact r_ret X hr hlk hw h dX9_text_79
  · have h := hf_ c_
    refine lv_aload_n X.1 X.2.1 dX9_text_67 rfl (lv_at hl 0 rfl) ?_
    refine lv_aload_n X.1 X.2.1 dX9_text_68 rfl (lv_at hl 0 rfl) ?_
    refine r_gf X inX9_text_X9 hw 0 rfl rfl 16 (by decide) (X.2.2.2.2 (.fieldLink RX9 202 "TestHallModel" "next" "I") (by decide +kernel)) rfl rfl dX9_text_69 ?_
    refine r_pf (ty := .int) (w' := mw κ η (sI M 15 (gI M 16))) X inX9_text_X9 tyX9_ok nmX9 hw 0 rfl rfl 15 (by decide) (X.2.2.2.2 (.fieldLink RX9 211 "TestHallModel" "holds" "I") (by decide +kernel)) rfl rfl (by decide +kernel) rfl rfl (Nat.le_of_ble_eq_true rfl) rfl dX9_text_72 (fun H locs hw => ?_)
    obtain ⟨M_1, eM_1⟩ : ∃ y : Sg, y = sI M 15 (gI M 16) := ⟨_, rfl⟩
    rw [← eM_1] at hw
    have h := h M_1 eM_1
    refine lv_aload_n X.1 X.2.1 dX9_text_75 rfl (lv_at hl 0 rfl) ?_
    refine r_gf X inX9_text_X9 hw 0 rfl rfl 8 (by decide) (X.2.2.2.2 (.fieldLink RX9 186 "TestHallModel" "fault" "I") (by decide +kernel)) rfl rfl dX9_text_76 ?_
    exact r_ret X hr hlk hw h dX9_text_79
def vX9_text_34 (Q : Sg → Int32 → Prop) : Nat → Sg → Prop
  | 0, _ => False
  | f34_ + 1, M => ((¬ (gI M 8) = 0 → (vX9_text_60 Q M)) ∧ ((gI M 8) = 0 → (vp_in (gI M 7) 602 ∧ (((gA M 4 (gI M 7).toNatClampNeg) = 0 → (vX9_text_60 Q M)) ∧ (¬ (gA M 4 (gI M 7).toNatClampNeg) = 0 → (wX9_line M (fun M_1 => (vX9_text_34 Q f34_ M_1))))))))
set_option maxHeartbeats 4000000 in
set_option maxRecDepth 100000 in
theorem bX9_text_34 {p : Program} {l : Launch} {e : Env} {s : State} {m : MethodId} {args : Array Value} {below : List Frame} {meth : Method} {c : Code} {D : va_G} {κ : Nat → ClassId} {η : Nat → Nat} {σ : (Nat → Nat) × (Nat → Nat)} {A : Nat → Prop} {Q : Sg → Int32 → Prop} (X : CallFix p m c cX9_text 1 s args wsX9_text RX9) (hr : meth.sig.returnType = (some .int)) (hlk : meth.locks = false) : ∀ (f_ : Nat) (M : Sg) (H : Heap) (locs : List Loc) (ls : Array Slot), vX9_text_34 Q f_ M → Wd (cN σ) D (Ky κ) A s (mw κ η M) H locs → lv_has ls 1 [(0, .ref (η 0))] → W p l e rmX9_text s m args below meth c H locs 0 0 (MQ below (Qi D (Ky κ) (mw κ η) A Q) args s 0 0 A) (F0 m 34 ls []) := by
  intro f_
  induction f_ with
  | zero => intro M H locs ls h; exact h.elim
  | succ f_ hK34 =>
    intro M H locs ls h hw hl
    refine lv_aload_n X.1 X.2.1 dX9_text_34 rfl (lv_at hl 0 rfl) ?_
    refine r_gf X inX9_text_X9 hw 0 rfl rfl 8 (by decide) (X.2.2.2.2 (.fieldLink RX9 186 "TestHallModel" "fault" "I") (by decide +kernel)) rfl rfl dX9_text_35 ?_
    obtain ⟨ht_, hf_⟩ := h
    refine lv_if_ne (tgt := 60) X.1 X.2.1 dX9_text_38 (by decide) (fun c_ => ?_) (fun c_ => ?_)
    · have h := ht_ c_
      exact bX9_text_60 X hr hlk M _ _ _ h hw (lv_sub hl [0] rfl)
    · have h := hf_ c_
      refine lv_aload_n X.1 X.2.1 dX9_text_41 rfl (lv_at hl 0 rfl) ?_
      refine r_gf X inX9_text_X9 hw 0 rfl rfl 4 (by decide) (X.2.2.2.2 (.fieldLink RX9 24 "TestHallModel" "sort" "[I") (by decide +kernel)) rfl rfl dX9_text_42 ?_
      refine lv_aload_n X.1 X.2.1 dX9_text_45 rfl (lv_at hl 0 rfl) ?_
      refine r_gf X inX9_text_X9 hw 0 rfl rfl 7 (by decide) (X.2.2.2.2 (.fieldLink RX9 183 "TestHallModel" "at" "I") (by decide +kernel)) rfl rfl dX9_text_46 ?_
      obtain ⟨hi_, h⟩ := h
      refine r_ial X hw 2 0 rfl rfl hi_ dX9_text_49 ?_
      obtain ⟨ht_, hf_⟩ := h
      refine lv_if_eq (tgt := 60) X.1 X.2.1 dX9_text_50 (by decide) (fun c_ => ?_) (fun c_ => ?_)
      · have h := ht_ c_
        exact bX9_text_60 X hr hlk M _ _ _ h hw (lv_sub hl [0] rfl)
      · have h := hf_ c_
        refine lv_aload_n X.1 X.2.1 dX9_text_53 rfl (lv_at hl 0 rfl) ?_
        refine r_Vv (As := []) (rest := []) X cN_ok (kX9_line h) (cwV 0 X.2.2.2.2 gX9_text_X9_line rfl rfl rfl (by decide +kernel) ⟨Nat.le_of_ble_eq_true rfl, Nat.le_of_ble_eq_true rfl⟩) hw 0 8 rfl rfl rfl hl.1 rfl (Nat.le_of_ble_eq_true rfl) dX9_text_54 (fun M_1 H locs h hw => ?_)
        refine lv_goto (tgt := 34) X.1 X.2.1 dX9_text_57 (by decide) ?_
        exact hK34 M_1 _ _ _ h hw (lv_sub hl [0] rfl)
def wX9_text (M : Sg) (Q : Sg → Int32 → Prop) : Prop := (∀ (M_1 : Sg), M_1 = sI M 0 (0 : Int32) → (wX9_cutAll M_1 (fun M_2 => (∀ (M_4 : Sg), M_4 = sI M_2 16 ((1 : Int32) - (gI M_2 15)) → (vp_in (gI M_4 16) 2 ∧ (∀ (M_5 : Sg), M_5 = sA M_4 10 (gI M_4 16).toNatClampNeg (0 : Int32) → (∀ (M_6 : Sg), M_6 = sI M_5 17 (0 : Int32) → (∃ g34_ : Nat, vX9_text_34 Q g34_ M_6))))))))
set_option maxHeartbeats 4000000 in
set_option maxRecDepth 100000 in
theorem kX9_text {l : Launch} {D : va_G} {κ : Nat → ClassId} {η : Nat → Nat} {σ : (Nat → Nat) × (Nat → Nat)} {M : Sg} {Q : Sg → Int32 → Prop} (h : wX9_text M Q) : Ki (cN σ) D (Ky κ) (mw κ η) l yX9_text wsX9_text rmX9_text [.ref (η 0)] M Q := by
  refine ofW_g (Qc := fun A => Qi D (Ky κ) (mw κ η) A Q) (cc := cX9_text) (maxL := 1) (ret := (some .int)) (by decide) rfl (Nat.le_of_ble_eq_true rfl) ?_
  intro p e s m args below meth c A ls X hr hlk hw hl
  have hl : lv_has ls 1 [(0, .ref (η 0))] := hl
  refine lv_aload_n X.1 X.2.1 dX9_text_0 rfl (lv_at hl 0 rfl) ?_
  refine lv_iconst (v := (0 : Int32)) X.1 X.2.1 dX9_text_1 (by decide) ?_
  refine r_pf (ty := .int) (w' := mw κ η (sI M 0 (0 : Int32))) X inX9_text_X9 tyX9_ok nmX9 hw 0 rfl rfl 0 (by decide) (X.2.2.2.2 (.fieldLink RX9 1 "TestHallModel" "thrown" "I") (by decide +kernel)) rfl rfl (by decide +kernel) rfl rfl (Nat.le_of_ble_eq_true rfl) rfl dX9_text_2 (fun H locs hw => ?_)
  obtain ⟨M_1, eM_1⟩ : ∃ y : Sg, y = sI M 0 (0 : Int32) := ⟨_, rfl⟩
  rw [← eM_1] at hw
  have h := h M_1 eM_1
  refine lv_aload_n X.1 X.2.1 dX9_text_5 rfl (lv_at hl 0 rfl) ?_
  refine r_Vv (As := []) (rest := []) X cN_ok (kX9_cutAll h) (cwV 0 X.2.2.2.2 gX9_text_X9_cutAll rfl rfl rfl (by decide +kernel) ⟨Nat.le_of_ble_eq_true rfl, Nat.le_of_ble_eq_true rfl⟩) hw 0 8 rfl rfl rfl hl.1 rfl (Nat.le_of_ble_eq_true rfl) dX9_text_6 (fun M_2 H locs h hw => ?_)
  refine lv_aload_n X.1 X.2.1 dX9_text_9 rfl (lv_at hl 0 rfl) ?_
  refine lv_iconst (v := (1 : Int32)) X.1 X.2.1 dX9_text_10 (by decide) ?_
  refine lv_aload_n X.1 X.2.1 dX9_text_11 rfl (lv_at hl 0 rfl) ?_
  refine r_gf X inX9_text_X9 hw 0 rfl rfl 15 (by decide) (X.2.2.2.2 (.fieldLink RX9 211 "TestHallModel" "holds" "I") (by decide +kernel)) rfl rfl dX9_text_12 ?_
  refine lv_isub X.1 X.2.1 dX9_text_15 ?_
  refine r_pf (ty := .int) (w' := mw κ η (sI M_2 16 ((1 : Int32) - (gI M_2 15)))) X inX9_text_X9 tyX9_ok nmX9 hw 0 rfl rfl 16 (by decide) (X.2.2.2.2 (.fieldLink RX9 202 "TestHallModel" "next" "I") (by decide +kernel)) rfl rfl (by decide +kernel) rfl rfl (Nat.le_of_ble_eq_true rfl) rfl dX9_text_16 (fun H locs hw => ?_)
  obtain ⟨M_4, eM_4⟩ : ∃ y : Sg, y = sI M_2 16 ((1 : Int32) - (gI M_2 15)) := ⟨_, rfl⟩
  rw [← eM_4] at hw
  have h := h M_4 eM_4
  refine lv_aload_n X.1 X.2.1 dX9_text_19 rfl (lv_at hl 0 rfl) ?_
  refine r_gf X inX9_text_X9 hw 0 rfl rfl 10 (by decide) (X.2.2.2.2 (.fieldLink RX9 55 "TestHallModel" "lines" "[I") (by decide +kernel)) rfl rfl dX9_text_20 ?_
  refine lv_aload_n X.1 X.2.1 dX9_text_23 rfl (lv_at hl 0 rfl) ?_
  refine r_gf X inX9_text_X9 hw 0 rfl rfl 16 (by decide) (X.2.2.2.2 (.fieldLink RX9 202 "TestHallModel" "next" "I") (by decide +kernel)) rfl rfl dX9_text_24 ?_
  refine lv_iconst (v := (0 : Int32)) X.1 X.2.1 dX9_text_27 (by decide) ?_
  obtain ⟨hi_, h⟩ := h
  refine r_ias (w' := mw κ η (sA M_4 10 (gI M_4 16).toNatClampNeg (0 : Int32))) X hw 6 0 rfl rfl hi_ rfl dX9_text_28 (fun H locs hw => ?_)
  obtain ⟨M_5, eM_5⟩ : ∃ y : Sg, y = sA M_4 10 (gI M_4 16).toNatClampNeg (0 : Int32) := ⟨_, rfl⟩
  rw [← eM_5] at hw
  have h := h M_5 eM_5
  refine lv_aload_n X.1 X.2.1 dX9_text_29 rfl (lv_at hl 0 rfl) ?_
  refine lv_iconst (v := (0 : Int32)) X.1 X.2.1 dX9_text_30 (by decide) ?_
  refine r_pf (ty := .int) (w' := mw κ η (sI M_5 17 (0 : Int32))) X inX9_text_X9 tyX9_ok nmX9 hw 0 rfl rfl 17 (by decide) (X.2.2.2.2 (.fieldLink RX9 205 "TestHallModel" "codes" "I") (by decide +kernel)) rfl rfl (by decide +kernel) rfl rfl (Nat.le_of_ble_eq_true rfl) rfl dX9_text_31 (fun H locs hw => ?_)
  obtain ⟨M_6, eM_6⟩ : ∃ y : Sg, y = sI M_5 17 (0 : Int32) := ⟨_, rfl⟩
  rw [← eM_6] at hw
  have h := h M_6 eM_6
  obtain ⟨f_, h⟩ := h
  exact bX9_text_34 X hr hlk f_ M_6 _ _ _ h hw (lv_sub hl [0] rfl)
