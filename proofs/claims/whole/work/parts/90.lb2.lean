section LB1
variable {p : Program} {l : Launch} {e : Env} {s : State} {m : MethodId} {args : Array Value} {below : List Frame} {meth : Method} {c : Code} {H : Heap} {locs : List Loc} {QQ : State → Prop} {cells slots : Nat} {ls : Array Slot} {st : List Value}
variable {D : va_G} {κ : Nat → ClassId} {η ηm : Nat → Nat} {σ : (Nat → Nat) × (Nat → Nat)} {n o i b L : Nat} {C R : Sg} {f : Nat → Int64} {A : Nat → Prop} {xs : Nat → Int32} {x4 : Int32}
set_option maxHeartbeats 4000000 in
set_option maxRecDepth 100000 in
theorem bL_text (X : CallFix p m c cL_law 7 s args wsL_lawN RL) (hX : va_X b L xs s s.heap) (hbl : b < s.heap.size) (hbA : ¬ A b)  (h : Rel i n C R) (hw : Wd (cX σ) D (Ky κ) A s ((oE κ o f ++ mw κ ηm R) ++ cw κ η n C) H locs) (hl : lv_has ls 7 [(0, .ref b), (1, .ref (η 0)), (2, .ref (ηm 0)), (3, .ref o), (4, .int x4)]) (hc : cells + 1 ≤ room_1.cells) (hs : slots + 12 ≤ room_1.slots)
    (kk : ∀ (n1 : Nat) (C1 R1 : Sg) (η1 : Nat → Nat) (f1 : Nat → Int64) (H : Heap) (locs : List Loc) (ls : Array Slot), Rel (i + 1) n1 C1 R1 → η1 0 = η 0 → Wd (cX σ) D (Ky κ) A s ((oE κ o f1 ++ mw κ ηm R1) ++ cw κ η1 n1 C1) H locs → lv_has ls 7 [(0, .ref b), (1, .ref (η 0)), (2, .ref (ηm 0)), (3, .ref o), (4, .int x4)] → W p l e room_1 s m args below meth c H locs (cells + 1) (slots + 12) QQ (F0 m 1108 ls [])) : W p l e room_1 s m args below meth c H locs cells slots QQ (F0 m 464 ls []) := by
  refine lv_aload_n X.1 X.2.1 dL_law_464 rfl (lv_at hl 1 rfl) ?_
  refine r_FKx (As := []) (rest := []) X cN_ok (cX_N _ _) (kX8_text (op_text h)) (cwV 0 X.2.2.2.2 gL_law_X8_text rfl rfl rfl (by decide +kernel) ⟨Nat.le_of_ble_eq_true rfl, Nat.le_of_ble_eq_true rfl⟩) hw 0 7 rfl rfl rfl hl.1 rfl (Nat.le_of_ble_eq_true rfl) dL_law_465 ⟨by omega, by omega⟩ (fun r C1 η1 n1 H locs hη h hw => ?_)
  have hw := w_sw hw
  refine lv_aload_n X.1 X.2.1 dL_law_468 rfl (lv_at hl 2 rfl) ?_
  refine r_FKi (wd := mw κ ηm) (As := []) (rest := [.int r]) X cN_ok (cX_N _ _) (kX9_text h) (cwV 0 X.2.2.2.2 gL_law_X9_text rfl rfl rfl (by decide +kernel) ⟨Nat.le_of_ble_eq_true rfl, Nat.le_of_ble_eq_true rfl⟩) hw 0 8 rfl rfl rfl hl.1 rfl (Nat.le_of_ble_eq_true rfl) dL_law_469 ⟨by omega, by omega⟩ (fun r1 R1 H locs h hw => ?_)
  refine lv_icmp_eq (tgt := 1108) X.1 X.2.1 dL_law_472 (by decide) (fun _ => ?_) (fun c_ => absurd h.1.symm c_)
  refine W.widen (k := cells + 1) (n := slots + 12) (by omega) (by omega) ?_
  exact kk n1 C1 R1 η1 f H locs ls h.2 hη (w_sw hw) hl
set_option maxHeartbeats 4000000 in
set_option maxRecDepth 100000 in
theorem bL_deal (X : CallFix p m c cL_law 7 s args wsL_lawN RL) (hX : va_X b L xs s s.heap) (hbl : b < s.heap.size) (hbA : ¬ A b)  (h : Rel i n C R) (hw : Wd (cX σ) D (Ky κ) A s ((oE κ o f ++ mw κ ηm R) ++ cw κ η n C) H locs) (hl : lv_has ls 7 [(0, .ref b), (1, .ref (η 0)), (2, .ref (ηm 0)), (3, .ref o), (4, .int x4)]) (hc : cells + 1 ≤ room_1.cells) (hs : slots + 12 ≤ room_1.slots)
    (kk : ∀ (n1 : Nat) (C1 R1 : Sg) (η1 : Nat → Nat) (f1 : Nat → Int64) (H : Heap) (locs : List Loc) (ls : Array Slot), Rel (i + 1) n1 C1 R1 → η1 0 = η 0 → Wd (cX σ) D (Ky κ) A s ((oE κ o f1 ++ mw κ ηm R1) ++ cw κ η1 n1 C1) H locs → lv_has ls 7 [(0, .ref b), (1, .ref (η 0)), (2, .ref (ηm 0)), (3, .ref o), (4, .int x4)] → W p l e room_1 s m args below meth c H locs (cells + 1) (slots + 12) QQ (F0 m 1108 ls [])) : W p l e room_1 s m args below meth c H locs cells slots QQ (F0 m 477 ls []) := by
  refine lv_aload_n X.1 X.2.1 dL_law_477 rfl (lv_at hl 1 rfl) ?_
  refine r_FKi (wd := cw κ η n) (As := []) (rest := []) X cN_ok (cX_N _ _) (kX8_deal (op_deal h)) (cwV 0 X.2.2.2.2 gL_law_X8_deal rfl rfl rfl (by decide +kernel) ⟨Nat.le_of_ble_eq_true rfl, Nat.le_of_ble_eq_true rfl⟩) hw 0 7 rfl rfl rfl hl.1 rfl (Nat.le_of_ble_eq_true rfl) dL_law_478 ⟨by omega, by omega⟩ (fun r C1 H locs h hw => ?_)
  have hw := w_sw hw
  refine lv_aload_n X.1 X.2.1 dL_law_481 rfl (lv_at hl 2 rfl) ?_
  refine r_FKi (wd := mw κ ηm) (As := []) (rest := [.int r]) X cN_ok (cX_N _ _) (kX9_deal h) (cwV 0 X.2.2.2.2 gL_law_X9_deal rfl rfl rfl (by decide +kernel) ⟨Nat.le_of_ble_eq_true rfl, Nat.le_of_ble_eq_true rfl⟩) hw 0 8 rfl rfl rfl hl.1 rfl (Nat.le_of_ble_eq_true rfl) dL_law_482 ⟨by omega, by omega⟩ (fun r1 R1 H locs h hw => ?_)
  refine lv_icmp_eq (tgt := 1108) X.1 X.2.1 dL_law_485 (by decide) (fun _ => ?_) (fun c_ => absurd h.1.symm c_)
  refine W.widen (k := cells + 1) (n := slots + 12) (by omega) (by omega) ?_
  exact kk n C1 R1 η f H locs ls h.2 rfl (w_sw hw) hl
set_option maxHeartbeats 4000000 in
set_option maxRecDepth 100000 in
theorem bL_cancel (X : CallFix p m c cL_law 7 s args wsL_lawN RL) (hX : va_X b L xs s s.heap) (hbl : b < s.heap.size) (hbA : ¬ A b) (hi1 : vp_in (x4 + 1) L) (h : Rel i n C R) (hw : Wd (cX σ) D (Ky κ) A s ((oE κ o f ++ mw κ ηm R) ++ cw κ η n C) H locs) (hl : lv_has ls 7 [(0, .ref b), (1, .ref (η 0)), (2, .ref (ηm 0)), (3, .ref o), (4, .int x4)]) (hc : cells + 1 ≤ room_1.cells) (hs : slots + 12 ≤ room_1.slots)
    (kk : ∀ (n1 : Nat) (C1 R1 : Sg) (η1 : Nat → Nat) (f1 : Nat → Int64) (H : Heap) (locs : List Loc) (ls : Array Slot), Rel (i + 1) n1 C1 R1 → η1 0 = η 0 → Wd (cX σ) D (Ky κ) A s ((oE κ o f1 ++ mw κ ηm R1) ++ cw κ η1 n1 C1) H locs → lv_has ls 7 [(0, .ref b), (1, .ref (η 0)), (2, .ref (ηm 0)), (3, .ref o), (4, .int x4)] → W p l e room_1 s m args below meth c H locs (cells + 1) (slots + 12) QQ (F0 m 1108 ls [])) : W p l e room_1 s m args below meth c H locs cells slots QQ (F0 m 490 ls []) := by
  refine lv_aload_n X.1 X.2.1 dL_law_490 rfl (lv_at hl 1 rfl) ?_
  refine l_ld (t := (1 : Int32)) X hX hbl hbA hw.2.2.1 hl hi1 dL_law_491 dL_law_492 dL_law_494 (by decide) dL_law_495 dL_law_496 ?_
  refine r_FKi (wd := cw κ η n) (As := [.int (ld xs x4 1)]) (rest := []) X cN_ok (cX_N _ _) (kX8_cancel (op_cancel h)) (cwV 1 X.2.2.2.2 gL_law_X8_cancel rfl rfl rfl (by decide +kernel) ⟨Nat.le_of_ble_eq_true rfl, Nat.le_of_ble_eq_true rfl⟩) hw 0 7 rfl rfl rfl hl.1 rfl (Nat.le_of_ble_eq_true rfl) dL_law_497 ⟨by omega, by omega⟩ (fun r C1 H locs h hw => ?_)
  have hw := w_sw hw
  refine lv_aload_n X.1 X.2.1 dL_law_500 rfl (lv_at hl 2 rfl) ?_
  refine l_ld (t := (1 : Int32)) X hX hbl hbA hw.2.2.1 hl hi1 dL_law_501 dL_law_502 dL_law_504 (by decide) dL_law_505 dL_law_506 ?_
  refine r_FKi (wd := mw κ ηm) (As := [.int (ld xs x4 1)]) (rest := [.int r]) X cN_ok (cX_N _ _) (kX9_cancel h) (cwV 1 X.2.2.2.2 gL_law_X9_cancel rfl rfl rfl (by decide +kernel) ⟨Nat.le_of_ble_eq_true rfl, Nat.le_of_ble_eq_true rfl⟩) hw 0 8 rfl rfl rfl hl.1 rfl (Nat.le_of_ble_eq_true rfl) dL_law_507 ⟨by omega, by omega⟩ (fun r1 R1 H locs h hw => ?_)
  refine lv_icmp_eq (tgt := 1108) X.1 X.2.1 dL_law_510 (by decide) (fun _ => ?_) (fun c_ => absurd h.1.symm c_)
  refine W.widen (k := cells + 1) (n := slots + 12) (by omega) (by omega) ?_
  exact kk n C1 R1 η f H locs ls h.2 rfl (w_sw hw) hl
set_option maxHeartbeats 4000000 in
set_option maxRecDepth 100000 in
theorem bL_leave (X : CallFix p m c cL_law 7 s args wsL_lawN RL) (hX : va_X b L xs s s.heap) (hbl : b < s.heap.size) (hbA : ¬ A b) (hi1 : vp_in (x4 + 1) L) (h : Rel i n C R) (hw : Wd (cX σ) D (Ky κ) A s ((oE κ o f ++ mw κ ηm R) ++ cw κ η n C) H locs) (hl : lv_has ls 7 [(0, .ref b), (1, .ref (η 0)), (2, .ref (ηm 0)), (3, .ref o), (4, .int x4)]) (hc : cells + 1 ≤ room_1.cells) (hs : slots + 12 ≤ room_1.slots)
    (kk : ∀ (n1 : Nat) (C1 R1 : Sg) (η1 : Nat → Nat) (f1 : Nat → Int64) (H : Heap) (locs : List Loc) (ls : Array Slot), Rel (i + 1) n1 C1 R1 → η1 0 = η 0 → Wd (cX σ) D (Ky κ) A s ((oE κ o f1 ++ mw κ ηm R1) ++ cw κ η1 n1 C1) H locs → lv_has ls 7 [(0, .ref b), (1, .ref (η 0)), (2, .ref (ηm 0)), (3, .ref o), (4, .int x4)] → W p l e room_1 s m args below meth c H locs (cells + 1) (slots + 12) QQ (F0 m 1108 ls [])) : W p l e room_1 s m args below meth c H locs cells slots QQ (F0 m 515 ls []) := by
  refine lv_aload_n X.1 X.2.1 dL_law_515 rfl (lv_at hl 1 rfl) ?_
  refine l_ld (t := (1 : Int32)) X hX hbl hbA hw.2.2.1 hl hi1 dL_law_516 dL_law_517 dL_law_519 (by decide) dL_law_520 dL_law_521 ?_
  refine r_FKi (wd := cw κ η n) (As := [.int (ld xs x4 1)]) (rest := []) X cN_ok (cX_N _ _) (kX8_leave (op_leave h)) (cwV 1 X.2.2.2.2 gL_law_X8_leave rfl rfl rfl (by decide +kernel) ⟨Nat.le_of_ble_eq_true rfl, Nat.le_of_ble_eq_true rfl⟩) hw 0 7 rfl rfl rfl hl.1 rfl (Nat.le_of_ble_eq_true rfl) dL_law_522 ⟨by omega, by omega⟩ (fun r C1 H locs h hw => ?_)
  have hw := w_sw hw
  refine lv_aload_n X.1 X.2.1 dL_law_525 rfl (lv_at hl 2 rfl) ?_
  refine l_ld (t := (1 : Int32)) X hX hbl hbA hw.2.2.1 hl hi1 dL_law_526 dL_law_527 dL_law_529 (by decide) dL_law_530 dL_law_531 ?_
  refine r_FKi (wd := mw κ ηm) (As := [.int (ld xs x4 1)]) (rest := [.int r]) X cN_ok (cX_N _ _) (kX9_leave h) (cwV 1 X.2.2.2.2 gL_law_X9_leave rfl rfl rfl (by decide +kernel) ⟨Nat.le_of_ble_eq_true rfl, Nat.le_of_ble_eq_true rfl⟩) hw 0 8 rfl rfl rfl hl.1 rfl (Nat.le_of_ble_eq_true rfl) dL_law_532 ⟨by omega, by omega⟩ (fun r1 R1 H locs h hw => ?_)
  refine lv_icmp_eq (tgt := 1108) X.1 X.2.1 dL_law_535 (by decide) (fun _ => ?_) (fun c_ => absurd h.1.symm c_)
  refine W.widen (k := cells + 1) (n := slots + 12) (by omega) (by omega) ?_
  exact kk n C1 R1 η f H locs ls h.2 rfl (w_sw hw) hl
set_option maxHeartbeats 4000000 in
set_option maxRecDepth 100000 in
theorem bL_shut (X : CallFix p m c cL_law 7 s args wsL_lawN RL) (hX : va_X b L xs s s.heap) (hbl : b < s.heap.size) (hbA : ¬ A b) (hi1 : vp_in (x4 + 1) L) (h : Rel i n C R) (hw : Wd (cX σ) D (Ky κ) A s ((oE κ o f ++ mw κ ηm R) ++ cw κ η n C) H locs) (hl : lv_has ls 7 [(0, .ref b), (1, .ref (η 0)), (2, .ref (ηm 0)), (3, .ref o), (4, .int x4)]) (hc : cells + 1 ≤ room_1.cells) (hs : slots + 12 ≤ room_1.slots)
    (kk : ∀ (n1 : Nat) (C1 R1 : Sg) (η1 : Nat → Nat) (f1 : Nat → Int64) (H : Heap) (locs : List Loc) (ls : Array Slot), Rel (i + 1) n1 C1 R1 → η1 0 = η 0 → Wd (cX σ) D (Ky κ) A s ((oE κ o f1 ++ mw κ ηm R1) ++ cw κ η1 n1 C1) H locs → lv_has ls 7 [(0, .ref b), (1, .ref (η 0)), (2, .ref (ηm 0)), (3, .ref o), (4, .int x4)] → W p l e room_1 s m args below meth c H locs (cells + 1) (slots + 12) QQ (F0 m 1108 ls [])) : W p l e room_1 s m args below meth c H locs cells slots QQ (F0 m 540 ls []) := by
  refine lv_aload_n X.1 X.2.1 dL_law_540 rfl (lv_at hl 1 rfl) ?_
  refine l_ld (t := (1 : Int32)) X hX hbl hbA hw.2.2.1 hl hi1 dL_law_541 dL_law_542 dL_law_544 (by decide) dL_law_545 dL_law_546 ?_
  refine r_FKi (wd := cw κ η n) (As := [.int (ld xs x4 1)]) (rest := []) X cN_ok (cX_N _ _) (kX8_shut (op_shut h)) (cwV 1 X.2.2.2.2 gL_law_X8_shut rfl rfl rfl (by decide +kernel) ⟨Nat.le_of_ble_eq_true rfl, Nat.le_of_ble_eq_true rfl⟩) hw 0 7 rfl rfl rfl hl.1 rfl (Nat.le_of_ble_eq_true rfl) dL_law_547 ⟨by omega, by omega⟩ (fun r C1 H locs h hw => ?_)
  have hw := w_sw hw
  refine lv_aload_n X.1 X.2.1 dL_law_550 rfl (lv_at hl 2 rfl) ?_
  refine l_ld (t := (1 : Int32)) X hX hbl hbA hw.2.2.1 hl hi1 dL_law_551 dL_law_552 dL_law_554 (by decide) dL_law_555 dL_law_556 ?_
  refine r_FKi (wd := mw κ ηm) (As := [.int (ld xs x4 1)]) (rest := [.int r]) X cN_ok (cX_N _ _) (kX9_shut h) (cwV 1 X.2.2.2.2 gL_law_X9_shut rfl rfl rfl (by decide +kernel) ⟨Nat.le_of_ble_eq_true rfl, Nat.le_of_ble_eq_true rfl⟩) hw 0 8 rfl rfl rfl hl.1 rfl (Nat.le_of_ble_eq_true rfl) dL_law_557 ⟨by omega, by omega⟩ (fun r1 R1 H locs h hw => ?_)
  refine lv_icmp_eq (tgt := 1108) X.1 X.2.1 dL_law_560 (by decide) (fun _ => ?_) (fun c_ => absurd h.1.symm c_)
  refine W.widen (k := cells + 1) (n := slots + 12) (by omega) (by omega) ?_
  exact kk n C1 R1 η f H locs ls h.2 rfl (w_sw hw) hl
set_option maxHeartbeats 4000000 in
set_option maxRecDepth 100000 in
theorem bL_days (X : CallFix p m c cL_law 7 s args wsL_lawN RL) (hX : va_X b L xs s s.heap) (hbl : b < s.heap.size) (hbA : ¬ A b) (hi1 : vp_in (x4 + 1) L) (h : Rel i n C R) (hw : Wd (cX σ) D (Ky κ) A s ((oE κ o f ++ mw κ ηm R) ++ cw κ η n C) H locs) (hl : lv_has ls 7 [(0, .ref b), (1, .ref (η 0)), (2, .ref (ηm 0)), (3, .ref o), (4, .int x4)]) (hc : cells + 1 ≤ room_1.cells) (hs : slots + 12 ≤ room_1.slots)
    (kk : ∀ (n1 : Nat) (C1 R1 : Sg) (η1 : Nat → Nat) (f1 : Nat → Int64) (H : Heap) (locs : List Loc) (ls : Array Slot), Rel (i + 1) n1 C1 R1 → η1 0 = η 0 → Wd (cX σ) D (Ky κ) A s ((oE κ o f1 ++ mw κ ηm R1) ++ cw κ η1 n1 C1) H locs → lv_has ls 7 [(0, .ref b), (1, .ref (η 0)), (2, .ref (ηm 0)), (3, .ref o), (4, .int x4)] → W p l e room_1 s m args below meth c H locs (cells + 1) (slots + 12) QQ (F0 m 1108 ls [])) : W p l e room_1 s m args below meth c H locs cells slots QQ (F0 m 565 ls []) := by
  refine lv_aload_n X.1 X.2.1 dL_law_565 rfl (lv_at hl 1 rfl) ?_
  refine l_ld (t := (1 : Int32)) X hX hbl hbA hw.2.2.1 hl hi1 dL_law_566 dL_law_567 dL_law_569 (by decide) dL_law_570 dL_law_571 ?_
  refine r_FKi (wd := cw κ η n) (As := [.int (ld xs x4 1)]) (rest := []) X cN_ok (cX_N _ _) (kX8_days (op_days h)) (cwV 1 X.2.2.2.2 gL_law_X8_days rfl rfl rfl (by decide +kernel) ⟨Nat.le_of_ble_eq_true rfl, Nat.le_of_ble_eq_true rfl⟩) hw 0 7 rfl rfl rfl hl.1 rfl (Nat.le_of_ble_eq_true rfl) dL_law_572 ⟨by omega, by omega⟩ (fun r C1 H locs h hw => ?_)
  have hw := w_sw hw
  refine lv_aload_n X.1 X.2.1 dL_law_575 rfl (lv_at hl 2 rfl) ?_
  refine l_ld (t := (1 : Int32)) X hX hbl hbA hw.2.2.1 hl hi1 dL_law_576 dL_law_577 dL_law_579 (by decide) dL_law_580 dL_law_581 ?_
  refine r_FKi (wd := mw κ ηm) (As := [.int (ld xs x4 1)]) (rest := [.int r]) X cN_ok (cX_N _ _) (kX9_days h) (cwV 1 X.2.2.2.2 gL_law_X9_days rfl rfl rfl (by decide +kernel) ⟨Nat.le_of_ble_eq_true rfl, Nat.le_of_ble_eq_true rfl⟩) hw 0 8 rfl rfl rfl hl.1 rfl (Nat.le_of_ble_eq_true rfl) dL_law_582 ⟨by omega, by omega⟩ (fun r1 R1 H locs h hw => ?_)
  refine lv_icmp_eq (tgt := 1108) X.1 X.2.1 dL_law_585 (by decide) (fun _ => ?_) (fun c_ => absurd h.1.symm c_)
  refine W.widen (k := cells + 1) (n := slots + 12) (by omega) (by omega) ?_
  exact kk n C1 R1 η f H locs ls h.2 rfl (w_sw hw) hl
end LB1
