section LB2
variable {p : Program} {l : Launch} {e : Env} {s : State} {m : MethodId} {args : Array Value} {below : List Frame} {meth : Method} {c : Code} {H : Heap} {locs : List Loc} {QQ : State → Prop} {cells slots : Nat} {ls : Array Slot} {st : List Value}
variable {D : va_G} {κ : Nat → ClassId} {η ηm : Nat → Nat} {σ : (Nat → Nat) × (Nat → Nat)} {n o i b L : Nat} {C R : Sg} {f : Nat → Int64} {A : Nat → Prop} {xs : Nat → Int32} {x4 : Int32}
set_option maxHeartbeats 4000000 in
set_option maxRecDepth 100000 in
theorem bL_held (X : CallFix p m c cL_law 7 s args wsL_lawN RL) (hX : va_X b L xs s s.heap) (hbl : b < s.heap.size) (hbA : ¬ A b) (hi1 : vp_in (x4 + 1) L) (hi2 : vp_in (x4 + 2) L) (h : Rel i n C R) (hw : Wd (cX σ) D (Ky κ) A s ((oE κ o f ++ mw κ ηm R) ++ cw κ η n C) H locs) (hl : lv_has ls 7 [(0, .ref b), (1, .ref (η 0)), (2, .ref (ηm 0)), (3, .ref o), (4, .int x4)]) (hc : cells + 1 ≤ room_1.cells) (hs : slots + 12 ≤ room_1.slots)
    (kk : ∀ (n1 : Nat) (C1 R1 : Sg) (η1 : Nat → Nat) (f1 : Nat → Int64) (H : Heap) (locs : List Loc) (ls : Array Slot), Rel (i + 1) n1 C1 R1 → η1 0 = η 0 → Wd (cX σ) D (Ky κ) A s ((oE κ o f1 ++ mw κ ηm R1) ++ cw κ η1 n1 C1) H locs → lv_has ls 7 [(0, .ref b), (1, .ref (η 0)), (2, .ref (ηm 0)), (3, .ref o), (4, .int x4)] → W p l e room_1 s m args below meth c H locs (cells + 1) (slots + 12) QQ (F0 m 1108 ls [])) : W p l e room_1 s m args below meth c H locs cells slots QQ (F0 m 590 ls []) := by
  refine lv_aload_n X.1 X.2.1 dL_law_590 rfl (lv_at hl 1 rfl) ?_
  refine l_ld (t := (1 : Int32)) X hX hbl hbA hw.2.2.1 hl hi1 dL_law_591 dL_law_592 dL_law_594 (by decide) dL_law_595 dL_law_596 ?_
  refine l_ld (t := (2 : Int32)) X hX hbl hbA hw.2.2.1 hl hi2 dL_law_597 dL_law_598 dL_law_600 (by decide) dL_law_601 dL_law_602 ?_
  refine l_bool X dL_law_603 dL_law_606 dL_law_607 dL_law_610 ?_
  refine r_FKi (wd := cw κ η n) (As := [.int (ld xs x4 1), .int (zb (ld xs x4 2))]) (rest := []) X cN_ok (cX_N _ _) (kX8_held (op_held h)) (cwV 2 X.2.2.2.2 gL_law_X8_held rfl rfl rfl (by decide +kernel) ⟨Nat.le_of_ble_eq_true rfl, Nat.le_of_ble_eq_true rfl⟩) hw 0 7 rfl rfl rfl hl.1 rfl (Nat.le_of_ble_eq_true rfl) dL_law_611 ⟨by omega, by omega⟩ (fun r C1 H locs h hw => ?_)
  have hw := w_sw hw
  refine lv_aload_n X.1 X.2.1 dL_law_614 rfl (lv_at hl 2 rfl) ?_
  refine l_ld (t := (1 : Int32)) X hX hbl hbA hw.2.2.1 hl hi1 dL_law_615 dL_law_616 dL_law_618 (by decide) dL_law_619 dL_law_620 ?_
  refine l_ld (t := (2 : Int32)) X hX hbl hbA hw.2.2.1 hl hi2 dL_law_621 dL_law_622 dL_law_624 (by decide) dL_law_625 dL_law_626 ?_
  refine l_bool X dL_law_627 dL_law_630 dL_law_631 dL_law_634 ?_
  refine r_FKi (wd := mw κ ηm) (As := [.int (ld xs x4 1), .int (zb (ld xs x4 2))]) (rest := [.int r]) X cN_ok (cX_N _ _) (kX9_held h) (cwV 2 X.2.2.2.2 gL_law_X9_held rfl rfl rfl (by decide +kernel) ⟨Nat.le_of_ble_eq_true rfl, Nat.le_of_ble_eq_true rfl⟩) hw 0 8 rfl rfl rfl hl.1 rfl (Nat.le_of_ble_eq_true rfl) dL_law_635 ⟨by omega, by omega⟩ (fun r1 R1 H locs h hw => ?_)
  refine lv_icmp_eq (tgt := 1108) X.1 X.2.1 dL_law_638 (by decide) (fun _ => ?_) (fun c_ => absurd h.1.symm c_)
  refine W.widen (k := cells + 1) (n := slots + 12) (by omega) (by omega) ?_
  exact kk n C1 R1 η f H locs ls h.2 rfl (w_sw hw) hl
set_option maxHeartbeats 4000000 in
set_option maxRecDepth 100000 in
theorem bL_at (X : CallFix p m c cL_law 7 s args wsL_lawN RL) (hX : va_X b L xs s s.heap) (hbl : b < s.heap.size) (hbA : ¬ A b) (hi1 : vp_in (x4 + 1) L) (hi2 : vp_in (x4 + 2) L) (hi3 : vp_in (x4 + 3) L) (h : Rel i n C R) (hw : Wd (cX σ) D (Ky κ) A s ((oE κ o f ++ mw κ ηm R) ++ cw κ η n C) H locs) (hl : lv_has ls 7 [(0, .ref b), (1, .ref (η 0)), (2, .ref (ηm 0)), (3, .ref o), (4, .int x4)]) (hc : cells + 1 ≤ room_1.cells) (hs : slots + 12 ≤ room_1.slots)
    (kk : ∀ (n1 : Nat) (C1 R1 : Sg) (η1 : Nat → Nat) (f1 : Nat → Int64) (H : Heap) (locs : List Loc) (ls : Array Slot), Rel (i + 1) n1 C1 R1 → η1 0 = η 0 → Wd (cX σ) D (Ky κ) A s ((oE κ o f1 ++ mw κ ηm R1) ++ cw κ η1 n1 C1) H locs → lv_has ls 7 [(0, .ref b), (1, .ref (η 0)), (2, .ref (ηm 0)), (3, .ref o), (4, .int x4)] → W p l e room_1 s m args below meth c H locs (cells + 1) (slots + 12) QQ (F0 m 1108 ls [])) : W p l e room_1 s m args below meth c H locs cells slots QQ (F0 m 711 ls []) := by
  refine lv_aload_n X.1 X.2.1 dL_law_711 rfl (lv_at hl 1 rfl) ?_
  refine l_ld (t := (1 : Int32)) X hX hbl hbA hw.2.2.1 hl hi1 dL_law_712 dL_law_713 dL_law_715 (by decide) dL_law_716 dL_law_717 ?_
  refine l_ld (t := (2 : Int32)) X hX hbl hbA hw.2.2.1 hl hi2 dL_law_718 dL_law_719 dL_law_721 (by decide) dL_law_722 dL_law_723 ?_
  refine l_ld (t := (3 : Int32)) X hX hbl hbA hw.2.2.1 hl hi3 dL_law_724 dL_law_725 dL_law_727 (by decide) dL_law_728 dL_law_729 ?_
  refine r_FKi (wd := cw κ η n) (As := [.int (ld xs x4 1), .int (ld xs x4 2), .int (ld xs x4 3)]) (rest := []) X cN_ok (cX_N _ _) (kX8_at (op_at h)) (cwV 3 X.2.2.2.2 gL_law_X8_at rfl rfl rfl (by decide +kernel) ⟨Nat.le_of_ble_eq_true rfl, Nat.le_of_ble_eq_true rfl⟩) hw 0 7 rfl rfl rfl hl.1 rfl (Nat.le_of_ble_eq_true rfl) dL_law_730 ⟨by omega, by omega⟩ (fun r C1 H locs h hw => ?_)
  have hw := w_sw hw
  refine lv_aload_n X.1 X.2.1 dL_law_733 rfl (lv_at hl 2 rfl) ?_
  refine l_ld (t := (1 : Int32)) X hX hbl hbA hw.2.2.1 hl hi1 dL_law_734 dL_law_735 dL_law_737 (by decide) dL_law_738 dL_law_739 ?_
  refine l_ld (t := (2 : Int32)) X hX hbl hbA hw.2.2.1 hl hi2 dL_law_740 dL_law_741 dL_law_743 (by decide) dL_law_744 dL_law_745 ?_
  refine l_ld (t := (3 : Int32)) X hX hbl hbA hw.2.2.1 hl hi3 dL_law_746 dL_law_747 dL_law_749 (by decide) dL_law_750 dL_law_751 ?_
  refine r_FKi (wd := mw κ ηm) (As := [.int (ld xs x4 1), .int (ld xs x4 2), .int (ld xs x4 3)]) (rest := [.int r]) X cN_ok (cX_N _ _) (kX9_at h) (cwV 3 X.2.2.2.2 gL_law_X9_at rfl rfl rfl (by decide +kernel) ⟨Nat.le_of_ble_eq_true rfl, Nat.le_of_ble_eq_true rfl⟩) hw 0 8 rfl rfl rfl hl.1 rfl (Nat.le_of_ble_eq_true rfl) dL_law_752 ⟨by omega, by omega⟩ (fun r1 R1 H locs h hw => ?_)
  refine lv_icmp_eq (tgt := 1108) X.1 X.2.1 dL_law_755 (by decide) (fun _ => ?_) (fun c_ => absurd h.1.symm c_)
  refine W.widen (k := cells + 1) (n := slots + 12) (by omega) (by omega) ?_
  exact kk n C1 R1 η f H locs ls h.2 rfl (w_sw hw) hl
set_option maxHeartbeats 4000000 in
set_option maxRecDepth 100000 in
theorem bL_street (X : CallFix p m c cL_law 7 s args wsL_lawN RL) (hX : va_X b L xs s s.heap) (hbl : b < s.heap.size) (hbA : ¬ A b) (hi1 : vp_in (x4 + 1) L) (hi2 : vp_in (x4 + 2) L) (hi3 : vp_in (x4 + 3) L) (hi4 : vp_in (x4 + 4) L) (h : Rel i n C R) (hw : Wd (cX σ) D (Ky κ) A s ((oE κ o f ++ mw κ ηm R) ++ cw κ η n C) H locs) (hl : lv_has ls 7 [(0, .ref b), (1, .ref (η 0)), (2, .ref (ηm 0)), (3, .ref o), (4, .int x4)]) (hc : cells + 1 ≤ room_1.cells) (hs : slots + 12 ≤ room_1.slots)
    (kk : ∀ (n1 : Nat) (C1 R1 : Sg) (η1 : Nat → Nat) (f1 : Nat → Int64) (H : Heap) (locs : List Loc) (ls : Array Slot), Rel (i + 1) n1 C1 R1 → η1 0 = η 0 → Wd (cX σ) D (Ky κ) A s ((oE κ o f1 ++ mw κ ηm R1) ++ cw κ η1 n1 C1) H locs → lv_has ls 7 [(0, .ref b), (1, .ref (η 0)), (2, .ref (ηm 0)), (3, .ref o), (4, .int x4)] → W p l e room_1 s m args below meth c H locs (cells + 1) (slots + 12) QQ (F0 m 1108 ls [])) : W p l e room_1 s m args below meth c H locs cells slots QQ (F0 m 760 ls []) := by
  refine lv_aload_n X.1 X.2.1 dL_law_760 rfl (lv_at hl 1 rfl) ?_
  refine l_ld (t := (1 : Int32)) X hX hbl hbA hw.2.2.1 hl hi1 dL_law_761 dL_law_762 dL_law_764 (by decide) dL_law_765 dL_law_766 ?_
  refine l_ld (t := (2 : Int32)) X hX hbl hbA hw.2.2.1 hl hi2 dL_law_767 dL_law_768 dL_law_770 (by decide) dL_law_771 dL_law_772 ?_
  refine l_ld (t := (3 : Int32)) X hX hbl hbA hw.2.2.1 hl hi3 dL_law_773 dL_law_774 dL_law_776 (by decide) dL_law_777 dL_law_778 ?_
  refine l_ld (t := (4 : Int32)) X hX hbl hbA hw.2.2.1 hl hi4 dL_law_779 dL_law_780 dL_law_782 (by decide) dL_law_783 dL_law_784 ?_
  refine r_FKi (wd := cw κ η n) (As := [.int (ld xs x4 1), .int (ld xs x4 2), .int (ld xs x4 3), .int (ld xs x4 4)]) (rest := []) X cN_ok (cX_N _ _) (kX8_street (op_street h)) (cwV 4 X.2.2.2.2 gL_law_X8_street rfl rfl rfl (by decide +kernel) ⟨Nat.le_of_ble_eq_true rfl, Nat.le_of_ble_eq_true rfl⟩) hw 0 7 rfl rfl rfl hl.1 rfl (Nat.le_of_ble_eq_true rfl) dL_law_785 ⟨by omega, by omega⟩ (fun r C1 H locs h hw => ?_)
  have hw := w_sw hw
  refine lv_aload_n X.1 X.2.1 dL_law_788 rfl (lv_at hl 2 rfl) ?_
  refine l_ld (t := (1 : Int32)) X hX hbl hbA hw.2.2.1 hl hi1 dL_law_789 dL_law_790 dL_law_792 (by decide) dL_law_793 dL_law_794 ?_
  refine l_ld (t := (2 : Int32)) X hX hbl hbA hw.2.2.1 hl hi2 dL_law_795 dL_law_796 dL_law_798 (by decide) dL_law_799 dL_law_800 ?_
  refine l_ld (t := (3 : Int32)) X hX hbl hbA hw.2.2.1 hl hi3 dL_law_801 dL_law_802 dL_law_804 (by decide) dL_law_805 dL_law_806 ?_
  refine l_ld (t := (4 : Int32)) X hX hbl hbA hw.2.2.1 hl hi4 dL_law_807 dL_law_808 dL_law_810 (by decide) dL_law_811 dL_law_812 ?_
  refine r_FKi (wd := mw κ ηm) (As := [.int (ld xs x4 1), .int (ld xs x4 2), .int (ld xs x4 3), .int (ld xs x4 4)]) (rest := [.int r]) X cN_ok (cX_N _ _) (kX9_street h) (cwV 4 X.2.2.2.2 gL_law_X9_street rfl rfl rfl (by decide +kernel) ⟨Nat.le_of_ble_eq_true rfl, Nat.le_of_ble_eq_true rfl⟩) hw 0 8 rfl rfl rfl hl.1 rfl (Nat.le_of_ble_eq_true rfl) dL_law_813 ⟨by omega, by omega⟩ (fun r1 R1 H locs h hw => ?_)
  refine lv_icmp_eq (tgt := 1108) X.1 X.2.1 dL_law_816 (by decide) (fun _ => ?_) (fun c_ => absurd h.1.symm c_)
  refine W.widen (k := cells + 1) (n := slots + 12) (by omega) (by omega) ?_
  exact kk n C1 R1 η f H locs ls h.2 rfl (w_sw hw) hl
set_option maxHeartbeats 4000000 in
set_option maxRecDepth 100000 in
theorem bL_close (X : CallFix p m c cL_law 7 s args wsL_lawN RL) (hX : va_X b L xs s s.heap) (hbl : b < s.heap.size) (hbA : ¬ A b) (hi1 : vp_in (x4 + 1) L) (hi2 : vp_in (x4 + 2) L) (h : Rel i n C R) (hw : Wd (cX σ) D (Ky κ) A s ((oE κ o f ++ mw κ ηm R) ++ cw κ η n C) H locs) (hl : lv_has ls 7 [(0, .ref b), (1, .ref (η 0)), (2, .ref (ηm 0)), (3, .ref o), (4, .int x4)]) (hc : cells + 1 ≤ room_1.cells) (hs : slots + 12 ≤ room_1.slots)
    (kk : ∀ (n1 : Nat) (C1 R1 : Sg) (η1 : Nat → Nat) (f1 : Nat → Int64) (H : Heap) (locs : List Loc) (ls : Array Slot), Rel (i + 1) n1 C1 R1 → η1 0 = η 0 → Wd (cX σ) D (Ky κ) A s ((oE κ o f1 ++ mw κ ηm R1) ++ cw κ η1 n1 C1) H locs → lv_has ls 7 [(0, .ref b), (1, .ref (η 0)), (2, .ref (ηm 0)), (3, .ref o), (4, .int x4)] → W p l e room_1 s m args below meth c H locs (cells + 1) (slots + 12) QQ (F0 m 1108 ls [])) : W p l e room_1 s m args below meth c H locs cells slots QQ (F0 m 821 ls []) := by
  refine lv_aload_n X.1 X.2.1 dL_law_821 rfl (lv_at hl 1 rfl) ?_
  refine l_ld (t := (1 : Int32)) X hX hbl hbA hw.2.2.1 hl hi1 dL_law_822 dL_law_823 dL_law_825 (by decide) dL_law_826 dL_law_827 ?_
  refine l_ld (t := (2 : Int32)) X hX hbl hbA hw.2.2.1 hl hi2 dL_law_828 dL_law_829 dL_law_831 (by decide) dL_law_832 dL_law_833 ?_
  refine l_bool X dL_law_834 dL_law_837 dL_law_838 dL_law_841 ?_
  refine r_FKi (wd := cw κ η n) (As := [.int (ld xs x4 1), .int (zb (ld xs x4 2))]) (rest := []) X cN_ok (cX_N _ _) (kX8_close (op_close h)) (cwV 2 X.2.2.2.2 gL_law_X8_close rfl rfl rfl (by decide +kernel) ⟨Nat.le_of_ble_eq_true rfl, Nat.le_of_ble_eq_true rfl⟩) hw 0 7 rfl rfl rfl hl.1 rfl (Nat.le_of_ble_eq_true rfl) dL_law_842 ⟨by omega, by omega⟩ (fun r C1 H locs h hw => ?_)
  have hw := w_sw hw
  refine lv_aload_n X.1 X.2.1 dL_law_845 rfl (lv_at hl 2 rfl) ?_
  refine l_ld (t := (1 : Int32)) X hX hbl hbA hw.2.2.1 hl hi1 dL_law_846 dL_law_847 dL_law_849 (by decide) dL_law_850 dL_law_851 ?_
  refine l_ld (t := (2 : Int32)) X hX hbl hbA hw.2.2.1 hl hi2 dL_law_852 dL_law_853 dL_law_855 (by decide) dL_law_856 dL_law_857 ?_
  refine l_bool X dL_law_858 dL_law_861 dL_law_862 dL_law_865 ?_
  refine r_FKi (wd := mw κ ηm) (As := [.int (ld xs x4 1), .int (zb (ld xs x4 2))]) (rest := [.int r]) X cN_ok (cX_N _ _) (kX9_close h) (cwV 2 X.2.2.2.2 gL_law_X9_close rfl rfl rfl (by decide +kernel) ⟨Nat.le_of_ble_eq_true rfl, Nat.le_of_ble_eq_true rfl⟩) hw 0 8 rfl rfl rfl hl.1 rfl (Nat.le_of_ble_eq_true rfl) dL_law_866 ⟨by omega, by omega⟩ (fun r1 R1 H locs h hw => ?_)
  refine lv_icmp_eq (tgt := 1108) X.1 X.2.1 dL_law_869 (by decide) (fun _ => ?_) (fun c_ => absurd h.1.symm c_)
  refine W.widen (k := cells + 1) (n := slots + 12) (by omega) (by omega) ?_
  exact kk n C1 R1 η f H locs ls h.2 rfl (w_sw hw) hl
set_option maxHeartbeats 4000000 in
set_option maxRecDepth 100000 in
theorem bL_routes (X : CallFix p m c cL_law 7 s args wsL_lawN RL) (hX : va_X b L xs s s.heap) (hbl : b < s.heap.size) (hbA : ¬ A b) (hi1 : vp_in (x4 + 1) L) (hi2 : vp_in (x4 + 2) L) (hi3 : vp_in (x4 + 3) L) (h : Rel i n C R) (hw : Wd (cX σ) D (Ky κ) A s ((oE κ o f ++ mw κ ηm R) ++ cw κ η n C) H locs) (hl : lv_has ls 7 [(0, .ref b), (1, .ref (η 0)), (2, .ref (ηm 0)), (3, .ref o), (4, .int x4)]) (hc : cells + 1 ≤ room_1.cells) (hs : slots + 12 ≤ room_1.slots)
    (kk : ∀ (n1 : Nat) (C1 R1 : Sg) (η1 : Nat → Nat) (f1 : Nat → Int64) (H : Heap) (locs : List Loc) (ls : Array Slot), Rel (i + 1) n1 C1 R1 → η1 0 = η 0 → Wd (cX σ) D (Ky κ) A s ((oE κ o f1 ++ mw κ ηm R1) ++ cw κ η1 n1 C1) H locs → lv_has ls 7 [(0, .ref b), (1, .ref (η 0)), (2, .ref (ηm 0)), (3, .ref o), (4, .int x4)] → W p l e room_1 s m args below meth c H locs (cells + 1) (slots + 12) QQ (F0 m 1108 ls [])) : W p l e room_1 s m args below meth c H locs cells slots QQ (F0 m 874 ls []) := by
  refine lv_aload_n X.1 X.2.1 dL_law_874 rfl (lv_at hl 1 rfl) ?_
  refine l_ld (t := (1 : Int32)) X hX hbl hbA hw.2.2.1 hl hi1 dL_law_875 dL_law_876 dL_law_878 (by decide) dL_law_879 dL_law_880 ?_
  refine l_ld (t := (2 : Int32)) X hX hbl hbA hw.2.2.1 hl hi2 dL_law_881 dL_law_882 dL_law_884 (by decide) dL_law_885 dL_law_886 ?_
  refine l_ld (t := (3 : Int32)) X hX hbl hbA hw.2.2.1 hl hi3 dL_law_887 dL_law_888 dL_law_890 (by decide) dL_law_891 dL_law_892 ?_
  refine r_FKi (wd := cw κ η n) (As := [.int (ld xs x4 1), .int (ld xs x4 2), .int (ld xs x4 3)]) (rest := []) X cN_ok (cX_N _ _) (kX8_routes (op_routes h)) (cwV 3 X.2.2.2.2 gL_law_X8_routes rfl rfl rfl (by decide +kernel) ⟨Nat.le_of_ble_eq_true rfl, Nat.le_of_ble_eq_true rfl⟩) hw 0 7 rfl rfl rfl hl.1 rfl (Nat.le_of_ble_eq_true rfl) dL_law_893 ⟨by omega, by omega⟩ (fun r C1 H locs h hw => ?_)
  have hw := w_sw hw
  refine lv_aload_n X.1 X.2.1 dL_law_896 rfl (lv_at hl 2 rfl) ?_
  refine l_ld (t := (1 : Int32)) X hX hbl hbA hw.2.2.1 hl hi1 dL_law_897 dL_law_898 dL_law_900 (by decide) dL_law_901 dL_law_902 ?_
  refine l_ld (t := (2 : Int32)) X hX hbl hbA hw.2.2.1 hl hi2 dL_law_903 dL_law_904 dL_law_906 (by decide) dL_law_907 dL_law_908 ?_
  refine l_ld (t := (3 : Int32)) X hX hbl hbA hw.2.2.1 hl hi3 dL_law_909 dL_law_910 dL_law_912 (by decide) dL_law_913 dL_law_914 ?_
  refine r_FKi (wd := mw κ ηm) (As := [.int (ld xs x4 1), .int (ld xs x4 2), .int (ld xs x4 3)]) (rest := [.int r]) X cN_ok (cX_N _ _) (kX9_routes h) (cwV 3 X.2.2.2.2 gL_law_X9_routes rfl rfl rfl (by decide +kernel) ⟨Nat.le_of_ble_eq_true rfl, Nat.le_of_ble_eq_true rfl⟩) hw 0 8 rfl rfl rfl hl.1 rfl (Nat.le_of_ble_eq_true rfl) dL_law_915 ⟨by omega, by omega⟩ (fun r1 R1 H locs h hw => ?_)
  refine lv_icmp_eq (tgt := 1108) X.1 X.2.1 dL_law_918 (by decide) (fun _ => ?_) (fun c_ => absurd h.1.symm c_)
  refine W.widen (k := cells + 1) (n := slots + 12) (by omega) (by omega) ?_
  exact kk n C1 R1 η f H locs ls h.2 rfl (w_sw hw) hl
end LB2
