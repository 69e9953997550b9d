section LBL
variable {p : Program} {l : Launch} {e : Env} {s : State} {m : MethodId} {args : Array Value} {below : List Frame} {meth : Method} {c : Code} {H : Heap} {locs : List Loc} {QQ : State → Prop} {cells slots : Nat} {ls : Array Slot} {st : List Value}
variable {D : va_G} {κ : Nat → ClassId} {η ηm : Nat → Nat} {σ : (Nat → Nat) × (Nat → Nat)} {n o i b L : Nat} {C R : Sg} {f : Nat → Int64} {A : Nat → Prop} {xs : Nat → Int32} {x4 : Int32}
set_option maxHeartbeats 4000000 in
set_option maxRecDepth 100000 in
theorem bL_look (hst : l.stackTraces = false) (X : CallFix p m c cL_law 7 s args wsL_lawN RL) (hX : va_X b L xs s s.heap) (hbl : b < s.heap.size) (hbA : ¬ A b) (hi1 : vp_in (x4 + 1) L) (hi2 : vp_in (x4 + 2) L) (h : Rel i n C R) (hw : Wd (cX σ) D (Ky κ) A s ((oE κ o f ++ mw κ ηm R) ++ cw κ η n C) H locs) (hl : lv_has ls 7 [(0, .ref b), (1, .ref (η 0)), (2, .ref (ηm 0)), (3, .ref o), (4, .int x4)]) (hc : cells + 1 ≤ room_1.cells) (hs : slots + 12 ≤ room_1.slots)
    (kk : ∀ (n1 : Nat) (C1 R1 : Sg) (η1 : Nat → Nat) (f1 : Nat → Int64) (H : Heap) (locs : List Loc) (ls : Array Slot), Rel (i + 1) n1 C1 R1 → η1 0 = η 0 → Wd (cX σ) D (Ky κ) A s ((oE κ o f1 ++ mw κ ηm R1) ++ cw κ η1 n1 C1) H locs → lv_has ls 7 [(0, .ref b), (1, .ref (η 0)), (2, .ref (ηm 0)), (3, .ref o), (4, .int x4)] → W p l e room_1 s m args below meth c H locs (cells + 1) (slots + 12) QQ (F0 m 1108 ls [])) : W p l e room_1 s m args below meth c H locs cells slots QQ (F0 m 643 ls []) := by
  refine lv_aload_n X.1 X.2.1 dL_law_643 rfl (lv_at hl 1 rfl) ?_
  refine l_ld (t := (1 : Int32)) X hX hbl hbA hw.2.2.1 hl hi1 dL_law_644 dL_law_645 dL_law_647 (by decide) dL_law_648 dL_law_649 ?_
  refine l_ld (t := (2 : Int32)) X hX hbl hbA hw.2.2.1 hl hi2 dL_law_650 dL_law_651 dL_law_653 (by decide) dL_law_654 dL_law_655 ?_
  refine lv_aload_n X.1 X.2.1 dL_law_656 rfl (lv_at hl 3 rfl) ?_
  have hw1 : Wd (cX σ) D (Ky κ) A s (mw κ ηm R ++ (oE κ o f ++ cw κ η n C)) H locs := by
    have h1 := w_flip hw
    rw [List.append_assoc] at h1
    exact h1
  refine r_Look (σ := σ) (rest := []) hst (op_look h) X (vx_cwSW 4 X.2.2.2.2 gL_law_L_look rfl rfl rfl (by decide +kernel) ⟨Nat.le_of_ble_eq_true rfl, Nat.le_of_ble_eq_true rfl⟩) hw1 hl.1 rfl (Nat.le_of_ble_eq_true rfl) dL_law_657 ⟨by omega, by omega⟩ (fun r C1 f1 H locs hq hw => ?_)
  rw [← List.append_assoc] at hw
  have hw := w_sw (w_flip hw)
  rcases hq with ⟨rfl, v, ev, hq⟩ | ⟨rfl, hq⟩
  · refine lv_istore (lv' := [(5, .int 0), (0, .ref b), (1, .ref (η 0)), (2, .ref (ηm 0)), (3, .ref o), (4, .int x4)]) X.1 X.2.1 dL_law_660 hl (by decide) rfl (fun ls hl5 => ?_)
    have hl := lv_sub hl5 [1, 2, 3, 4, 5] rfl
    refine lv_aload_n X.1 X.2.1 dL_law_662 rfl (lv_at hl 2 rfl) ?_
    refine l_ld (t := (1 : Int32)) X hX hbl hbA hw.2.2.1 hl hi1 dL_law_663 dL_law_664 dL_law_666 (by decide) dL_law_667 dL_law_668 ?_
    refine l_ld (t := (2 : Int32)) X hX hbl hbA hw.2.2.1 hl hi2 dL_law_669 dL_law_670 dL_law_672 (by decide) dL_law_673 dL_law_674 ?_
    refine r_FKi (wd := mw κ ηm) (As := [.int (ld xs x4 1), .int (ld xs x4 2)]) (rest := []) X cN_ok (cX_N _ _) (kX9_look hq) (cwV 2 X.2.2.2.2 gL_law_X9_look rfl rfl rfl (by decide +kernel) ⟨Nat.le_of_ble_eq_true rfl, Nat.le_of_ble_eq_true rfl⟩) hw 0 8 rfl rfl rfl hl.1 rfl (Nat.le_of_ble_eq_true rfl) dL_law_675 ⟨by omega, by omega⟩ (fun r1 R1 H locs h hw => ?_)
    refine lv_istore (lv' := [(6, .int r1), (5, .int 0), (0, .ref b), (1, .ref (η 0)), (2, .ref (ηm 0)), (3, .ref o), (4, .int x4)]) X.1 X.2.1 dL_law_678 hl5 (by decide) rfl (fun ls hl6 => ?_)
    have hl := lv_sub hl6 [2, 3, 4, 5, 6] rfl
    refine lv_aload_n X.1 X.2.1 dL_law_680 rfl (lv_at hl6 4 rfl) ?_
    refine r_FKi (wd := mw κ ηm) (As := []) (rest := []) X cN_ok (cX_N _ _) (kX9_thrown (Q := fun R' r' => R' = R1 ∧ r' = gI R1 0) ⟨rfl, rfl⟩) (cwV 0 X.2.2.2.2 gL_law_X9_thrown rfl rfl rfl (by decide +kernel) ⟨Nat.le_of_ble_eq_true rfl, Nat.le_of_ble_eq_true rfl⟩) hw 0 8 rfl rfl rfl hl6.1 rfl (Nat.le_of_ble_eq_true rfl) dL_law_681 ⟨by omega, by omega⟩ (fun r2 R2 H locs h2 hw => ?_)
    obtain ⟨e2, e3⟩ := h2
    rw [e2] at hw
    refine lv_iload X.1 X.2.1 dL_law_684 (lv_at hl6 1 rfl) ?_
    refine lv_icmp_eq (tgt := 691) X.1 X.2.1 dL_law_686 (by decide) (fun _ => ?_) (fun c_ => absurd (e3.trans h.1) c_)
    refine lv_iload X.1 X.2.1 dL_law_691 (lv_at hl6 1 rfl) ?_
    refine lv_if_ne (tgt := 708) X.1 X.2.1 dL_law_693 (by decide) (fun c_ => absurd rfl c_) (fun _ => ?_)
    refine lv_aload_n X.1 X.2.1 dL_law_696 rfl (lv_at hl6 5 rfl) ?_
    refine lv_iconst (v := (0 : Int32)) X.1 X.2.1 dL_law_697 (by decide) ?_
    refine r_lal X hw 0 3 rfl rfl vp01 dL_law_698 ?_
    refine lv_iload X.1 X.2.1 dL_law_699 (lv_at hl6 0 rfl) ?_
    refine lv_i2l (v := r1.toInt64) X.1 X.2.1 dL_law_701 rfl ?_
    refine W.lcmp X.1 X.2.1 dL_law_702 ?_
    have ez : lg_cmp (f1 (0 : Int32).toNatClampNeg) r1.toInt64 = 0 := by
      rw [show f1 (0 : Int32).toNatClampNeg = v.toInt64 from ev, h.2.1]
      exact z_cmp _
    refine lv_if_eq (tgt := 708) X.1 X.2.1 dL_law_703 (by decide) (fun _ => ?_) (fun c_ => absurd ez c_)
    refine lv_goto (tgt := 1108) X.1 X.2.1 dL_law_708 (by decide) ?_
    refine W.widen (k := cells + 1) (n := slots + 12) (by omega) (by omega) ?_
    exact kk n C1 R1 η f1 H locs ls h.2.2 rfl (w_sw hw) hl
  · refine lv_istore (lv' := [(5, .int 1), (0, .ref b), (1, .ref (η 0)), (2, .ref (ηm 0)), (3, .ref o), (4, .int x4)]) X.1 X.2.1 dL_law_660 hl (by decide) rfl (fun ls hl5 => ?_)
    have hl := lv_sub hl5 [1, 2, 3, 4, 5] rfl
    refine lv_aload_n X.1 X.2.1 dL_law_662 rfl (lv_at hl 2 rfl) ?_
    refine l_ld (t := (1 : Int32)) X hX hbl hbA hw.2.2.1 hl hi1 dL_law_663 dL_law_664 dL_law_666 (by decide) dL_law_667 dL_law_668 ?_
    refine l_ld (t := (2 : Int32)) X hX hbl hbA hw.2.2.1 hl hi2 dL_law_669 dL_law_670 dL_law_672 (by decide) dL_law_673 dL_law_674 ?_
    refine r_FKi (wd := mw κ ηm) (As := [.int (ld xs x4 1), .int (ld xs x4 2)]) (rest := []) X cN_ok (cX_N _ _) (kX9_look hq) (cwV 2 X.2.2.2.2 gL_law_X9_look rfl rfl rfl (by decide +kernel) ⟨Nat.le_of_ble_eq_true rfl, Nat.le_of_ble_eq_true rfl⟩) hw 0 8 rfl rfl rfl hl.1 rfl (Nat.le_of_ble_eq_true rfl) dL_law_675 ⟨by omega, by omega⟩ (fun r1 R1 H locs h hw => ?_)
    refine lv_istore (lv' := [(6, .int r1), (5, .int 1), (0, .ref b), (1, .ref (η 0)), (2, .ref (ηm 0)), (3, .ref o), (4, .int x4)]) X.1 X.2.1 dL_law_678 hl5 (by decide) rfl (fun ls hl6 => ?_)
    have hl := lv_sub hl6 [2, 3, 4, 5, 6] rfl
    refine lv_aload_n X.1 X.2.1 dL_law_680 rfl (lv_at hl6 4 rfl) ?_
    refine r_FKi (wd := mw κ ηm) (As := []) (rest := []) X cN_ok (cX_N _ _) (kX9_thrown (Q := fun R' r' => R' = R1 ∧ r' = gI R1 0) ⟨rfl, rfl⟩) (cwV 0 X.2.2.2.2 gL_law_X9_thrown rfl rfl rfl (by decide +kernel) ⟨Nat.le_of_ble_eq_true rfl, Nat.le_of_ble_eq_true rfl⟩) hw 0 8 rfl rfl rfl hl6.1 rfl (Nat.le_of_ble_eq_true rfl) dL_law_681 ⟨by omega, by omega⟩ (fun r2 R2 H locs h2 hw => ?_)
    obtain ⟨e2, e3⟩ := h2
    rw [e2] at hw
    refine lv_iload X.1 X.2.1 dL_law_684 (lv_at hl6 1 rfl) ?_
    refine lv_icmp_eq (tgt := 691) X.1 X.2.1 dL_law_686 (by decide) (fun _ => ?_) (fun c_ => absurd (e3.trans h.1) c_)
    refine lv_iload X.1 X.2.1 dL_law_691 (lv_at hl6 1 rfl) ?_
    refine lv_if_ne (tgt := 708) X.1 X.2.1 dL_law_693 (by decide) (fun _ => ?_) (fun c_ => absurd c_ (by decide))
    refine lv_goto (tgt := 1108) X.1 X.2.1 dL_law_708 (by decide) ?_
    refine W.widen (k := cells + 1) (n := slots + 12) (by omega) (by omega) ?_
    exact kk n C1 R1 η f1 H locs ls h.2 rfl (w_sw hw) hl
end LBL
