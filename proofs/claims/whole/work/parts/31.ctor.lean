abbrev rmJ7_fill_53178 : Room := { frames := 0, cells := 0, slots := 0, locals := 0 }
section Fill
variable {p : Program} {l : Launch} {e : Env} {s : State} {m : MethodId} {args : Array Value} {below : List Frame} {meth : Method} {c : Code} {N : (Nat → Prop) → State → Prop} {D : va_G} {A : Nat → Prop} {κ : Nat → ClassId} {b L : Nat} {v : Int32}
set_option maxHeartbeats 4000000 in
set_option maxRecDepth 100000 in
theorem fill_loop (hL : L < 2 ^ 31) (X : CallFix p m c cJ7_fill_53178 4 s args wsJ7_fill_53178 RJ7) (hr : meth.sig.returnType = none) (hlk : meth.locks = false) : ∀ (k i : Nat) (g : Nat → Int32) (H : Heap) (locs : List Loc) (ls : Array Slot), i + k = L → (∀ j, j < i → g j = v) → Wd N D (Ky κ) A s [(b, .inl (κ 0, L, .inl g))] H locs → lv_has ls 4 [(0, .ref b), (1, .int v), (2, .int (nI i)), (3, .int (nI L))] → W p l e rmJ7_fill_53178 s m args below meth c H locs 0 0 (MQ below (va_Qv (fun g : Nat → Int32 => ∀ j, j < L → g j = v) (fun g t => va_P D vwCl [(b, .inl (κ 0, L, .inl g))] t.heap ∧ va_K D vwCl (Ky κ) t ∧ va_D A [(b, .inl (κ 0, L, .inl g))]) A) args s 0 0 A) (F0 m 5 ls []) := by
  intro k
  induction k with
  | zero =>
    intro i g H locs ls hi hg hw hl
    refine lv_iload_n X.1 X.2.1 dJ7_fill_53178_5 rfl (lv_at hl 2 rfl) ?_
    refine lv_iload_n X.1 X.2.1 dJ7_fill_53178_6 rfl (lv_at hl 3 rfl) ?_
    refine lv_icmp_ge (tgt := 20) X.1 X.2.1 dJ7_fill_53178_7 (by decide) (fun c_ => ?_) (fun c_ => absurd (nI_le (by omega) (by omega)) c_)
    exact r_cret g X hr hlk hw (fun j hj => hg j (by omega)) dJ7_fill_53178_20
  | succ k ih =>
    intro i g H locs ls hi hg hw hl
    refine lv_iload_n X.1 X.2.1 dJ7_fill_53178_5 rfl (lv_at hl 2 rfl) ?_
    refine lv_iload_n X.1 X.2.1 dJ7_fill_53178_6 rfl (lv_at hl 3 rfl) ?_
    refine lv_icmp_ge (tgt := 20) X.1 X.2.1 dJ7_fill_53178_7 (by decide) (fun c_ => absurd c_ (nI_ge (by omega) (by omega))) (fun c_ => ?_)
    refine lv_aload_n X.1 X.2.1 dJ7_fill_53178_10 rfl (lv_at hl 0 rfl) ?_
    refine lv_iload_n X.1 X.2.1 dJ7_fill_53178_11 rfl (lv_at hl 2 rfl) ?_
    refine lv_iload_n X.1 X.2.1 dJ7_fill_53178_12 rfl (lv_at hl 1 rfl) ?_
    refine r_ias (w' := [(b, .inl (κ 0, L, .inl (upd g i v)))]) X hw 0 0 rfl rfl (vp_in_nI (by omega) hL) (by rw [nI_clamp (by omega)]; rfl) dJ7_fill_53178_13 (fun H locs hw => ?_)
    refine lv_iinc (v := nI (i + 1)) (lv' := [(2, .int (nI (i + 1))), (0, .ref b), (1, .int v), (3, .int (nI L))]) X.1 X.2.1 dJ7_fill_53178_14 hl (k := 2) rfl (nI_succ i).symm (by decide) rfl (fun ls hl => ?_)
    refine lv_goto (tgt := 5) X.1 X.2.1 dJ7_fill_53178_17 (by decide) ?_
    refine ih (i + 1) _ _ _ _ (by omega) (fun j hj => ?_) hw (lv_sub hl [1, 2, 0, 3] rfl)
    by_cases ej : j = i
    · rw [ej]; exact pk_us
    · rw [pk_un ej]; exact hg j (by omega)
set_option maxRecDepth 100000 in
theorem kJ7_fill_53178 {f : Nat → Int32} (hL : L < 2 ^ 31) : Kc N D (Ky κ) l yJ7_fill_53178 wsJ7_fill_53178 rmJ7_fill_53178 [.ref b, .int v] [(b, .inl (κ 0, L, .inl f))] (fun g : Nat → Int32 => [(b, .inl (κ 0, L, .inl g))]) (fun g => ∀ j, j < L → g j = v) 0 0 := by
  refine ofW_c (cc := cJ7_fill_53178) (maxL := 4) (by decide) rfl (Nat.le_of_ble_eq_true rfl) ?_
  intro p e s m args below meth c A ls X hr hlk hmn hw hl
  have hl : lv_has ls 4 [(0, .ref b), (1, .int v)] := hl
  refine lv_iconst (v := nI 0) X.1 X.2.1 dJ7_fill_53178_0 (by decide) ?_
  refine lv_istore_n (lv' := [(2, .int (nI 0)), (0, .ref b), (1, .int v)]) X.1 X.2.1 dJ7_fill_53178_1 rfl hl (by decide) rfl (fun ls hl => ?_)
  refine lv_aload_n X.1 X.2.1 dJ7_fill_53178_2 rfl (lv_at hl 1 rfl) ?_
  refine r_len (v := nI L) X hw 0 0 rfl rfl rfl dJ7_fill_53178_3 ?_
  refine lv_istore_n (lv' := [(3, .int (nI L)), (2, .int (nI 0)), (0, .ref b), (1, .int v)]) X.1 X.2.1 dJ7_fill_53178_4 rfl hl (by decide) rfl (fun ls hl => ?_)
  exact fill_loop hL X hr hlk L 0 f _ _ _ (by omega) (fun j hj => absurd hj (Nat.not_lt_zero j)) hw (lv_sub hl [2, 3, 1, 0] rfl)
end Fill

theorem inX2_init_X2 : ∀ w ∈ wsX20, w ∈ wsX2_init := fun w h => List.mem_cons_of_mem _ (List.mem_append_right _ h)
abbrev rmX2_init : Room := { frames := 1, cells := 2, slots := 120, locals := 40 }
def wcX2 (κ : Nat → ClassId) (q : Nat) (u : Nat → Nat) : va_W := [(q, .inr (2, [.ref (u 1), .ref (u 2), .int 0])), (u 1, .inl (κ 0, 60, .inl (fun _ => 0))), (u 2, .inl (κ 0, 60, .inl (fun _ => 0)))]
set_option maxHeartbeats 4000000 in
set_option maxRecDepth 100000 in
theorem kX2_init {N : (Nat → Prop) → State → Prop} {D : va_G} {κ : Nat → ClassId} {l : Launch} {q : Nat} (hNP : NP N) : Kc N D (Ky κ) l yX2_init wsX2_init rmX2_init [.ref q] [(q, .inr (2, [.null, .null, .int 0]))] (wcX2 κ q) (fun _ => True) 2 120 := by
  refine ofW_c (cc := cX2_init) (maxL := 1) (by decide) rfl (Nat.le_of_ble_eq_true rfl) ?_
  intro p e s m args below meth c A ls X hr hlk hmn hw hl
  have hl : lv_has ls 1 [(0, .ref q)] := hl
  refine lv_aload_n X.1 X.2.1 dX2_init_0 rfl (lv_at hl 0 rfl) ?_
  refine r_oinit X hl.1 (X.2.2.2.2 _ (by decide +kernel)) (X.2.2.2.2 _ (by decide +kernel)) (X.2.2.2.2 _ (by decide +kernel)) (Nat.le_of_ble_eq_true rfl) (Nat.le_of_ble_eq_true rfl) dX2_init_1 ?_
  refine lv_aload_n X.1 X.2.1 dX2_init_4 rfl (lv_at hl 0 rfl) ?_
  refine lv_bipush (v := (60 : Int32)) X.1 X.2.1 dX2_init_5 (by decide) ?_
  refine r_newa (a0 := (60, .inl (fun _ => 0))) X hw 0 rfl rfl (fun _ h => by cases h) (X.2.2.2.2 _ (by decide +kernel)) (fun _ => rfl) (by decide) (by decide) (by decide) (Nat.le_of_ble_eq_true rfl) (Nat.le_of_ble_eq_true rfl) dX2_init_7 (fun q1 H hw => ?_)
  refine r_pfF (ty := (.array .int)) X inX2_init_X2 tyX2_ok nmX2 hmn hw 0 rfl rfl 0 (by decide) (X.2.2.2.2 (.fieldLink RX2 9 "TestHall$Line" "numbers" "[I") (by decide +kernel)) rfl rfl rfl (by decide +kernel) rfl rfl (Nat.le_of_ble_eq_true rfl) dX2_init_9 (fun H locs hw => ?_)
  refine lv_aload_n X.1 X.2.1 dX2_init_12 rfl (lv_at hl 0 rfl) ?_
  refine lv_bipush (v := (60 : Int32)) X.1 X.2.1 dX2_init_13 (by decide) ?_
  refine r_newa (a0 := (60, .inl (fun _ => 0))) X hw 0 rfl rfl (fun _ h => by cases h) (X.2.2.2.2 _ (by decide +kernel)) (fun _ => rfl) (by decide) (by decide) (by decide) (Nat.le_of_ble_eq_true rfl) (Nat.le_of_ble_eq_true rfl) dX2_init_15 (fun q2 H hw => ?_)
  refine r_pfF (ty := (.array .int)) X inX2_init_X2 tyX2_ok nmX2 hmn hw 0 rfl rfl 1 (by decide) (X.2.2.2.2 (.fieldLink RX2 15 "TestHall$Line" "ranks" "[I") (by decide +kernel)) rfl rfl rfl (by decide +kernel) rfl rfl (Nat.le_of_ble_eq_true rfl) dX2_init_17 (fun H locs hw => ?_)
  exact r_cret (fun k => [0, q1, q2].getD k 0) X hr hlk hw trivial dX2_init_20

theorem inX4_init_X4 : ∀ w ∈ wsX40, w ∈ wsX4_init := fun w h => List.mem_cons_of_mem _ (List.mem_append_right _ h)
abbrev rmX4_init : Room := { frames := 1, cells := 1, slots := 600, locals := 40 }
def wcX4 (κ : Nat → ClassId) (q : Nat) (u : Nat → Nat) : va_W := [(q, .inr (4, [.ref (u 1), .int 0])), (u 1, .inl (κ 2, 600, .inl (fun _ => 0)))]
set_option maxHeartbeats 4000000 in
set_option maxRecDepth 100000 in
theorem kX4_init {N : (Nat → Prop) → State → Prop} {D : va_G} {κ : Nat → ClassId} {l : Launch} {q : Nat} (hNP : NP N) : Kc N D (Ky κ) l yX4_init wsX4_init rmX4_init [.ref q] [(q, .inr (4, [.null, .int 0]))] (wcX4 κ q) (fun _ => True) 1 600 := by
  refine ofW_c (cc := cX4_init) (maxL := 1) (by decide) rfl (Nat.le_of_ble_eq_true rfl) ?_
  intro p e s m args below meth c A ls X hr hlk hmn hw hl
  have hl : lv_has ls 1 [(0, .ref q)] := hl
  refine lv_aload_n X.1 X.2.1 dX4_init_0 rfl (lv_at hl 0 rfl) ?_
  refine r_oinit X hl.1 (X.2.2.2.2 _ (by decide +kernel)) (X.2.2.2.2 _ (by decide +kernel)) (X.2.2.2.2 _ (by decide +kernel)) (Nat.le_of_ble_eq_true rfl) (Nat.le_of_ble_eq_true rfl) dX4_init_1 ?_
  refine lv_aload_n X.1 X.2.1 dX4_init_4 rfl (lv_at hl 0 rfl) ?_
  refine lv_sipush (v := (600 : Int32)) X.1 X.2.1 dX4_init_5 (by decide) ?_
  refine r_newa (a0 := (600, .inl (fun _ => 0))) X hw 2 rfl rfl (fun _ h => by cases h) (X.2.2.2.2 _ (by decide +kernel)) (fun _ => rfl) (by decide) (by decide) (by decide) (Nat.le_of_ble_eq_true rfl) (Nat.le_of_ble_eq_true rfl) dX4_init_8 (fun q1 H hw => ?_)
  refine r_pfF (ty := (.array .char)) X inX4_init_X4 tyX4_ok nmX4 hmn hw 0 rfl rfl 0 (by decide) (X.2.2.2.2 (.fieldLink RX4 9 "TestHall$Tape" "signs" "[C") (by decide +kernel)) rfl rfl rfl (by decide +kernel) rfl rfl (Nat.le_of_ble_eq_true rfl) dX4_init_10 (fun H locs hw => ?_)
  exact r_cret (fun k => [0, q1].getD k 0) X hr hlk hw trivial dX4_init_13

theorem inX5_init_X5 : ∀ w ∈ wsX50, w ∈ wsX5_init := fun w h => List.mem_cons_of_mem _ (List.mem_append_right _ h)
abbrev rmX5_init : Room := { frames := 1, cells := 4, slots := 648, locals := 40 }
def wcX5 (κ : Nat → ClassId) (q : Nat) (u : Nat → Nat) : va_W := [(q, .inr (5, [.ref (u 1), .ref (u 2), .ref (u 3), .ref (u 4), .int 0, .int 0])), (u 1, .inl (κ 0, 16, .inl (fun _ => 0))), (u 2, .inl (κ 0, 16, .inl (fun _ => 0))), (u 3, .inl (κ 0, 600, .inl (fun _ => 0))), (u 4, .inl (κ 0, 16, .inl (fun _ => 0)))]
set_option maxHeartbeats 4000000 in
set_option maxRecDepth 100000 in
theorem kX5_init {N : (Nat → Prop) → State → Prop} {D : va_G} {κ : Nat → ClassId} {l : Launch} {q : Nat} (hNP : NP N) : Kc N D (Ky κ) l yX5_init wsX5_init rmX5_init [.ref q] [(q, .inr (5, [.null, .null, .null, .null, .int 0, .int 0]))] (wcX5 κ q) (fun _ => True) 4 648 := by
  refine ofW_c (cc := cX5_init) (maxL := 1) (by decide) rfl (Nat.le_of_ble_eq_true rfl) ?_
  intro p e s m args below meth c A ls X hr hlk hmn hw hl
  have hl : lv_has ls 1 [(0, .ref q)] := hl
  refine lv_aload_n X.1 X.2.1 dX5_init_0 rfl (lv_at hl 0 rfl) ?_
  refine r_oinit X hl.1 (X.2.2.2.2 _ (by decide +kernel)) (X.2.2.2.2 _ (by decide +kernel)) (X.2.2.2.2 _ (by decide +kernel)) (Nat.le_of_ble_eq_true rfl) (Nat.le_of_ble_eq_true rfl) dX5_init_1 ?_
  refine lv_aload_n X.1 X.2.1 dX5_init_4 rfl (lv_at hl 0 rfl) ?_
  refine lv_bipush (v := (16 : Int32)) X.1 X.2.1 dX5_init_5 (by decide) ?_
  refine r_newa (a0 := (16, .inl (fun _ => 0))) X hw 0 rfl rfl (fun _ h => by cases h) (X.2.2.2.2 _ (by decide +kernel)) (fun _ => rfl) (by decide) (by decide) (by decide) (Nat.le_of_ble_eq_true rfl) (Nat.le_of_ble_eq_true rfl) dX5_init_7 (fun q1 H hw => ?_)
  refine r_pfF (ty := (.array .int)) X inX5_init_X5 tyX5_ok nmX5 hmn hw 0 rfl rfl 0 (by decide) (X.2.2.2.2 (.fieldLink RX5 9 "TestHall$Text" "firsts" "[I") (by decide +kernel)) rfl rfl rfl (by decide +kernel) rfl rfl (Nat.le_of_ble_eq_true rfl) dX5_init_9 (fun H locs hw => ?_)
  refine lv_aload_n X.1 X.2.1 dX5_init_12 rfl (lv_at hl 0 rfl) ?_
  refine lv_bipush (v := (16 : Int32)) X.1 X.2.1 dX5_init_13 (by decide) ?_
  refine r_newa (a0 := (16, .inl (fun _ => 0))) X hw 0 rfl rfl (fun _ h => by cases h) (X.2.2.2.2 _ (by decide +kernel)) (fun _ => rfl) (by decide) (by decide) (by decide) (Nat.le_of_ble_eq_true rfl) (Nat.le_of_ble_eq_true rfl) dX5_init_15 (fun q2 H hw => ?_)
  refine r_pfF (ty := (.array .int)) X inX5_init_X5 tyX5_ok nmX5 hmn hw 0 rfl rfl 1 (by decide) (X.2.2.2.2 (.fieldLink RX5 13 "TestHall$Text" "ends" "[I") (by decide +kernel)) rfl rfl rfl (by decide +kernel) rfl rfl (Nat.le_of_ble_eq_true rfl) dX5_init_17 (fun H locs hw => ?_)
  refine lv_aload_n X.1 X.2.1 dX5_init_20 rfl (lv_at hl 0 rfl) ?_
  refine lv_sipush (v := (600 : Int32)) X.1 X.2.1 dX5_init_21 (by decide) ?_
  refine r_newa (a0 := (600, .inl (fun _ => 0))) X hw 0 rfl rfl (fun _ h => by cases h) (X.2.2.2.2 _ (by decide +kernel)) (fun _ => rfl) (by decide) (by decide) (by decide) (Nat.le_of_ble_eq_true rfl) (Nat.le_of_ble_eq_true rfl) dX5_init_24 (fun q3 H hw => ?_)
  refine r_pfF (ty := (.array .int)) X inX5_init_X5 tyX5_ok nmX5 hmn hw 0 rfl rfl 2 (by decide) (X.2.2.2.2 (.fieldLink RX5 18 "TestHall$Text" "codes" "[I") (by decide +kernel)) rfl rfl rfl (by decide +kernel) rfl rfl (Nat.le_of_ble_eq_true rfl) dX5_init_26 (fun H locs hw => ?_)
  refine lv_aload_n X.1 X.2.1 dX5_init_29 rfl (lv_at hl 0 rfl) ?_
  refine lv_bipush (v := (16 : Int32)) X.1 X.2.1 dX5_init_30 (by decide) ?_
  refine r_newa (a0 := (16, .inl (fun _ => 0))) X hw 0 rfl rfl (fun _ h => by cases h) (X.2.2.2.2 _ (by decide +kernel)) (fun _ => rfl) (by decide) (by decide) (by decide) (Nat.le_of_ble_eq_true rfl) (Nat.le_of_ble_eq_true rfl) dX5_init_32 (fun q4 H hw => ?_)
  refine r_pfF (ty := (.array .int)) X inX5_init_X5 tyX5_ok nmX5 hmn hw 0 rfl rfl 3 (by decide) (X.2.2.2.2 (.fieldLink RX5 21 "TestHall$Text" "stack" "[I") (by decide +kernel)) rfl rfl rfl (by decide +kernel) rfl rfl (Nat.le_of_ble_eq_true rfl) dX5_init_34 (fun H locs hw => ?_)
  exact r_cret (fun k => [0, q1, q2, q3, q4].getD k 0) X hr hlk hw trivial dX5_init_37

theorem inX6_init_X6 : ∀ w ∈ wsX60, w ∈ wsX6_init := fun w h => List.mem_cons_of_mem _ (List.mem_append_right _ h)
abbrev rmX6_init : Room := { frames := 1, cells := 2, slots := 1202, locals := 40 }
def wcX6 (κ : Nat → ClassId) (q : Nat) (u : Nat → Nat) : va_W := [(q, .inr (6, [.ref (u 1), .ref (u 2), .int 0, .int 0, .int 0, .null, .int 0, .null])), (u 1, .inl (κ 0, 601, .inl (fun _ => 0))), (u 2, .inl (κ 0, 601, .inl (fun _ => 0)))]
set_option maxHeartbeats 4000000 in
set_option maxRecDepth 100000 in
theorem kX6_init {N : (Nat → Prop) → State → Prop} {D : va_G} {κ : Nat → ClassId} {l : Launch} {q : Nat} (hNP : NP N) : Kc N D (Ky κ) l yX6_init wsX6_init rmX6_init [.ref q] [(q, .inr (6, [.null, .null, .int 0, .int 0, .int 0, .null, .int 0, .null]))] (wcX6 κ q) (fun _ => True) 2 1202 := by
  refine ofW_c (cc := cX6_init) (maxL := 1) (by decide) rfl (Nat.le_of_ble_eq_true rfl) ?_
  intro p e s m args below meth c A ls X hr hlk hmn hw hl
  have hl : lv_has ls 1 [(0, .ref q)] := hl
  refine lv_aload_n X.1 X.2.1 dX6_init_0 rfl (lv_at hl 0 rfl) ?_
  refine r_oinit X hl.1 (X.2.2.2.2 _ (by decide +kernel)) (X.2.2.2.2 _ (by decide +kernel)) (X.2.2.2.2 _ (by decide +kernel)) (Nat.le_of_ble_eq_true rfl) (Nat.le_of_ble_eq_true rfl) dX6_init_1 ?_
  refine lv_aload_n X.1 X.2.1 dX6_init_4 rfl (lv_at hl 0 rfl) ?_
  refine lv_sipush (v := (601 : Int32)) X.1 X.2.1 dX6_init_5 (by decide) ?_
  refine r_newa (a0 := (601, .inl (fun _ => 0))) X hw 0 rfl rfl (fun _ h => by cases h) (X.2.2.2.2 _ (by decide +kernel)) (fun _ => rfl) (by decide) (by decide) (by decide) (Nat.le_of_ble_eq_true rfl) (Nat.le_of_ble_eq_true rfl) dX6_init_8 (fun q1 H hw => ?_)
  refine r_pfF (ty := (.array .int)) X inX6_init_X6 tyX6_ok nmX6 hmn hw 0 rfl rfl 0 (by decide) (X.2.2.2.2 (.fieldLink RX6 11 "TestHall$TextReader" "tokens" "[I") (by decide +kernel)) rfl rfl rfl (by decide +kernel) rfl rfl (Nat.le_of_ble_eq_true rfl) dX6_init_10 (fun H locs hw => ?_)
  refine lv_aload_n X.1 X.2.1 dX6_init_13 rfl (lv_at hl 0 rfl) ?_
  refine lv_sipush (v := (601 : Int32)) X.1 X.2.1 dX6_init_14 (by decide) ?_
  refine r_newa (a0 := (601, .inl (fun _ => 0))) X hw 0 rfl rfl (fun _ h => by cases h) (X.2.2.2.2 _ (by decide +kernel)) (fun _ => rfl) (by decide) (by decide) (by decide) (Nat.le_of_ble_eq_true rfl) (Nat.le_of_ble_eq_true rfl) dX6_init_17 (fun q2 H hw => ?_)
  refine r_pfF (ty := (.array .int)) X inX6_init_X6 tyX6_ok nmX6 hmn hw 0 rfl rfl 1 (by decide) (X.2.2.2.2 (.fieldLink RX6 15 "TestHall$TextReader" "places" "[I") (by decide +kernel)) rfl rfl rfl (by decide +kernel) rfl rfl (Nat.le_of_ble_eq_true rfl) dX6_init_19 (fun H locs hw => ?_)
  exact r_cret (fun k => [0, q1, q2].getD k 0) X hr hlk hw trivial dX6_init_22

theorem inX0_init_X0 : ∀ w ∈ wsX00, w ∈ wsX0_init := fun w h => List.mem_cons_of_mem _ (List.mem_append_right _ h)
abbrev rmX0_init : Room := { frames := 1, cells := 5, slots := 3436, locals := 40 }
def wcX0 (κ : Nat → ClassId) (q : Nat) (u : (Nat → Nat) × (Nat → Int32) × (Nat → Int32)) : va_W := [(q, .inr (0, [.ref (u.1 1), .ref (u.1 2), .ref (u.1 3), .ref (u.1 4), .ref (u.1 5), .int 0, .int 0, .int 0, .int 0])), (u.1 1, .inl (κ 0, 480, .inl u.2.1)), (u.1 2, .inl (κ 1, 60, .inl (fun _ => 0))), (u.1 3, .inl (κ 0, 2880, .inl u.2.2)), (u.1 4, .inl (κ 0, 8, .inl (fun _ => 0))), (u.1 5, .inl (κ 0, 8, .inl (fun _ => 0)))]
set_option maxHeartbeats 4000000 in
set_option maxRecDepth 100000 in
theorem kX0_init {N : (Nat → Prop) → State → Prop} {D : va_G} {κ : Nat → ClassId} {l : Launch} {q : Nat} (hNP : NP N) : Kc N D (Ky κ) l yX0_init wsX0_init rmX0_init [.ref q] [(q, .inr (0, [.null, .null, .null, .null, .null, .int 0, .int 0, .int 0, .int 0]))] (wcX0 κ q) (fun u => (∀ j, j < 480 → u.2.1 j = -1) ∧ ∀ j, j < 2880 → u.2.2 j = -1) 5 3436 := by
  refine ofW_c (cc := cX0_init) (maxL := 1) (by decide) rfl (Nat.le_of_ble_eq_true rfl) ?_
  intro p e s m args below meth c A ls X hr hlk hmn hw hl
  have hl : lv_has ls 1 [(0, .ref q)] := hl
  refine lv_aload_n X.1 X.2.1 dX0_init_0 rfl (lv_at hl 0 rfl) ?_
  refine r_oinit X hl.1 (X.2.2.2.2 _ (by decide +kernel)) (X.2.2.2.2 _ (by decide +kernel)) (X.2.2.2.2 _ (by decide +kernel)) (Nat.le_of_ble_eq_true rfl) (Nat.le_of_ble_eq_true rfl) dX0_init_1 ?_
  refine lv_aload_n X.1 X.2.1 dX0_init_4 rfl (lv_at hl 0 rfl) ?_
  refine lv_sipush (v := (480 : Int32)) X.1 X.2.1 dX0_init_5 (by decide) ?_
  refine r_newa (a0 := (480, .inl (fun _ => 0))) X hw 0 rfl rfl (fun _ h => by cases h) (X.2.2.2.2 _ (by decide +kernel)) (fun _ => rfl) (by decide) (by decide) (by decide) (Nat.le_of_ble_eq_true rfl) (Nat.le_of_ble_eq_true rfl) dX0_init_8 (fun q1 H hw => ?_)
  refine r_pfF (ty := (.array .int)) X inX0_init_X0 tyX0_ok nmX0 hmn hw 0 rfl rfl 0 (by decide) (X.2.2.2.2 (.fieldLink RX0 9 "TestHall$Calendar" "towns" "[I") (by decide +kernel)) rfl rfl rfl (by decide +kernel) rfl rfl (Nat.le_of_ble_eq_true rfl) dX0_init_10 (fun H locs hw => ?_)
  refine lv_aload_n X.1 X.2.1 dX0_init_13 rfl (lv_at hl 0 rfl) ?_
  refine lv_bipush (v := (60 : Int32)) X.1 X.2.1 dX0_init_14 (by decide) ?_
  refine r_newa (a0 := (60, .inl (fun _ => 0))) X hw 1 rfl rfl (fun _ h => by cases h) (X.2.2.2.2 _ (by decide +kernel)) (fun _ => rfl) (by decide) (by decide) (by decide) (Nat.le_of_ble_eq_true rfl) (Nat.le_of_ble_eq_true rfl) dX0_init_16 (fun q2 H hw => ?_)
  refine r_pfF (ty := (.array .boolean)) X inX0_init_X0 tyX0_ok nmX0 hmn hw 0 rfl rfl 1 (by decide) (X.2.2.2.2 (.fieldLink RX0 15 "TestHall$Calendar" "shutDays" "[Z") (by decide +kernel)) rfl rfl rfl (by decide +kernel) rfl rfl (Nat.le_of_ble_eq_true rfl) dX0_init_18 (fun H locs hw => ?_)
  refine lv_aload_n X.1 X.2.1 dX0_init_21 rfl (lv_at hl 0 rfl) ?_
  refine lv_sipush (v := (2880 : Int32)) X.1 X.2.1 dX0_init_22 (by decide) ?_
  refine r_newa (a0 := (2880, .inl (fun _ => 0))) X hw 0 rfl rfl (fun _ h => by cases h) (X.2.2.2.2 _ (by decide +kernel)) (fun _ => rfl) (by decide) (by decide) (by decide) (Nat.le_of_ble_eq_true rfl) (Nat.le_of_ble_eq_true rfl) dX0_init_25 (fun q3 H hw => ?_)
  refine r_pfF (ty := (.array .int)) X inX0_init_X0 tyX0_ok nmX0 hmn hw 0 rfl rfl 2 (by decide) (X.2.2.2.2 (.fieldLink RX0 19 "TestHall$Calendar" "booked" "[I") (by decide +kernel)) rfl rfl rfl (by decide +kernel) rfl rfl (Nat.le_of_ble_eq_true rfl) dX0_init_27 (fun H locs hw => ?_)
  refine lv_aload_n X.1 X.2.1 dX0_init_30 rfl (lv_at hl 0 rfl) ?_
  refine lv_bipush (v := (8 : Int32)) X.1 X.2.1 dX0_init_31 (by decide) ?_
  refine r_newa (a0 := (8, .inl (fun _ => 0))) X hw 0 rfl rfl (fun _ h => by cases h) (X.2.2.2.2 _ (by decide +kernel)) (fun _ => rfl) (by decide) (by decide) (by decide) (Nat.le_of_ble_eq_true rfl) (Nat.le_of_ble_eq_true rfl) dX0_init_33 (fun q4 H hw => ?_)
  refine r_pfF (ty := (.array .int)) X inX0_init_X0 tyX0_ok nmX0 hmn hw 0 rfl rfl 3 (by decide) (X.2.2.2.2 (.fieldLink RX0 22 "TestHall$Calendar" "tests" "[I") (by decide +kernel)) rfl rfl rfl (by decide +kernel) rfl rfl (Nat.le_of_ble_eq_true rfl) dX0_init_35 (fun H locs hw => ?_)
  refine lv_aload_n X.1 X.2.1 dX0_init_38 rfl (lv_at hl 0 rfl) ?_
  refine lv_bipush (v := (8 : Int32)) X.1 X.2.1 dX0_init_39 (by decide) ?_
  refine r_newa (a0 := (8, .inl (fun _ => 0))) X hw 0 rfl rfl (fun _ h => by cases h) (X.2.2.2.2 _ (by decide +kernel)) (fun _ => rfl) (by decide) (by decide) (by decide) (Nat.le_of_ble_eq_true rfl) (Nat.le_of_ble_eq_true rfl) dX0_init_41 (fun q5 H hw => ?_)
  refine r_pfF (ty := (.array .int)) X inX0_init_X0 tyX0_ok nmX0 hmn hw 0 rfl rfl 4 (by decide) (X.2.2.2.2 (.fieldLink RX0 25 "TestHall$Calendar" "passes" "[I") (by decide +kernel)) rfl rfl rfl (by decide +kernel) rfl rfl (Nat.le_of_ble_eq_true rfl) dX0_init_43 (fun H locs hw => ?_)
  refine lv_aload_n X.1 X.2.1 dX0_init_46 rfl (lv_at hl 0 rfl) ?_
  refine r_gf X inX0_init_X0 hw 0 rfl rfl 0 (by decide) (X.2.2.2.2 (.fieldLink RX0 9 "TestHall$Calendar" "towns" "[I") (by decide +kernel)) rfl rfl dX0_init_47 ?_
  refine lv_iconst (v := (-1 : Int32)) X.1 X.2.1 dX0_init_50 (by decide) ?_
  refine r_cellS (q0 := 1) (ef := fun g : Nat → Int32 => .inl (κ 0, 480, .inl g)) (As := [.ref q1, .int (-1 : Int32)]) (rest := []) X hNP (kJ7_fill_53178 (f := fun _ => 0) (by decide)) (va_cwS 2 X.2.2.2.2 gX0_init_J7_fill_53178 rfl rfl rfl (by decide +kernel) ⟨Nat.le_of_ble_eq_true rfl, Nat.le_of_ble_eq_true rfl⟩) hw rfl rfl hl.1 rfl (Nat.le_of_ble_eq_true rfl) dX0_init_51 ⟨Nat.le_of_ble_eq_true rfl, Nat.le_of_ble_eq_true rfl⟩ (fun g1 H locs hg1 hw => ?_)
  refine lv_aload_n X.1 X.2.1 dX0_init_54 rfl (lv_at hl 0 rfl) ?_
  refine r_gf X inX0_init_X0 hw 0 rfl rfl 2 (by decide) (X.2.2.2.2 (.fieldLink RX0 19 "TestHall$Calendar" "booked" "[I") (by decide +kernel)) rfl rfl dX0_init_55 ?_
  refine lv_iconst (v := (-1 : Int32)) X.1 X.2.1 dX0_init_58 (by decide) ?_
  refine r_cellS (q0 := 3) (ef := fun g : Nat → Int32 => .inl (κ 0, 2880, .inl g)) (As := [.ref q3, .int (-1 : Int32)]) (rest := []) X hNP (kJ7_fill_53178 (f := fun _ => 0) (by decide)) (va_cwS 2 X.2.2.2.2 gX0_init_J7_fill_53178 rfl rfl rfl (by decide +kernel) ⟨Nat.le_of_ble_eq_true rfl, Nat.le_of_ble_eq_true rfl⟩) hw rfl rfl hl.1 rfl (Nat.le_of_ble_eq_true rfl) dX0_init_59 ⟨Nat.le_of_ble_eq_true rfl, Nat.le_of_ble_eq_true rfl⟩ (fun g3 H locs hg3 hw => ?_)
  exact r_cret ((fun k => [0, q1, q2, q3, q4, q5].getD k 0), g1, g3) X hr hlk hw ⟨hg1, hg3⟩ dX0_init_62
