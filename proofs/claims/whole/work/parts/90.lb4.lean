section LB3
variable {p : Program} {l : Launch} {e : Env} {s : State} {m : MethodId} {args : Array Value} {below : List Frame} {meth : Method} {c : Code} {H : Heap} {locs : List Loc} {QQ : State → Prop} {cells slots : Nat} {ls : Array Slot} {st : List Value}
variable {D : va_G} {κ : Nat → ClassId} {η ηm : Nat → Nat} {σ : (Nat → Nat) × (Nat → Nat)} {n o i b L : Nat} {C R : Sg} {f : Nat → Int64} {A : Nat → Prop} {xs : Nat → Int32} {x4 : Int32}
set_option maxHeartbeats 4000000 in
set_option maxRecDepth 100000 in
theorem bL_route (X : CallFix p m c cL_law 7 s args wsL_lawN RL) (hX : va_X b L xs s s.heap) (hbl : b < s.heap.size) (hbA : ¬ A b) (hi1 : vp_in (x4 + 1) L) (hi2 : vp_in (x4 + 2) L) (hi3 : vp_in (x4 + 3) L) (hi4 : vp_in (x4 + 4) L) (h : Rel i n C R) (hw : Wd (cX σ) D (Ky κ) A s ((oE κ o f ++ mw κ ηm R) ++ cw κ η n C) H locs) (hl : lv_has ls 7 [(0, .ref b), (1, .ref (η 0)), (2, .ref (ηm 0)), (3, .ref o), (4, .int x4)]) (hc : cells + 1 ≤ room_1.cells) (hs : slots + 12 ≤ room_1.slots)
    (kk : ∀ (n1 : Nat) (C1 R1 : Sg) (η1 : Nat → Nat) (f1 : Nat → Int64) (H : Heap) (locs : List Loc) (ls : Array Slot), Rel (i + 1) n1 C1 R1 → η1 0 = η 0 → Wd (cX σ) D (Ky κ) A s ((oE κ o f1 ++ mw κ ηm R1) ++ cw κ η1 n1 C1) H locs → lv_has ls 7 [(0, .ref b), (1, .ref (η 0)), (2, .ref (ηm 0)), (3, .ref o), (4, .int x4)] → W p l e room_1 s m args below meth c H locs (cells + 1) (slots + 12) QQ (F0 m 1108 ls [])) : W p l e room_1 s m args below meth c H locs cells slots QQ (F0 m 923 ls []) := by
  refine lv_aload_n X.1 X.2.1 dL_law_923 rfl (lv_at hl 1 rfl) ?_
  refine l_ld (t := (1 : Int32)) X hX hbl hbA hw.2.2.1 hl hi1 dL_law_924 dL_law_925 dL_law_927 (by decide) dL_law_928 dL_law_929 ?_
  refine l_ld (t := (2 : Int32)) X hX hbl hbA hw.2.2.1 hl hi2 dL_law_930 dL_law_931 dL_law_933 (by decide) dL_law_934 dL_law_935 ?_
  refine l_ld (t := (3 : Int32)) X hX hbl hbA hw.2.2.1 hl hi3 dL_law_936 dL_law_937 dL_law_939 (by decide) dL_law_940 dL_law_941 ?_
  refine l_ld (t := (4 : Int32)) X hX hbl hbA hw.2.2.1 hl hi4 dL_law_942 dL_law_943 dL_law_945 (by decide) dL_law_946 dL_law_947 ?_
  refine r_FKi (wd := cw κ η n) (As := [.int (ld xs x4 1), .int (ld xs x4 2), .int (ld xs x4 3), .int (ld xs x4 4)]) (rest := []) X cN_ok (cX_N _ _) (kX8_route (op_route h)) (cwV 4 X.2.2.2.2 gL_law_X8_route rfl rfl rfl (by decide +kernel) ⟨Nat.le_of_ble_eq_true rfl, Nat.le_of_ble_eq_true rfl⟩) hw 0 7 rfl rfl rfl hl.1 rfl (Nat.le_of_ble_eq_true rfl) dL_law_948 ⟨by omega, by omega⟩ (fun r C1 H locs h hw => ?_)
  have hw := w_sw hw
  refine lv_aload_n X.1 X.2.1 dL_law_951 rfl (lv_at hl 2 rfl) ?_
  refine l_ld (t := (1 : Int32)) X hX hbl hbA hw.2.2.1 hl hi1 dL_law_952 dL_law_953 dL_law_955 (by decide) dL_law_956 dL_law_957 ?_
  refine l_ld (t := (2 : Int32)) X hX hbl hbA hw.2.2.1 hl hi2 dL_law_958 dL_law_959 dL_law_961 (by decide) dL_law_962 dL_law_963 ?_
  refine l_ld (t := (3 : Int32)) X hX hbl hbA hw.2.2.1 hl hi3 dL_law_964 dL_law_965 dL_law_967 (by decide) dL_law_968 dL_law_969 ?_
  refine l_ld (t := (4 : Int32)) X hX hbl hbA hw.2.2.1 hl hi4 dL_law_970 dL_law_971 dL_law_973 (by decide) dL_law_974 dL_law_975 ?_
  refine r_FKi (wd := mw κ ηm) (As := [.int (ld xs x4 1), .int (ld xs x4 2), .int (ld xs x4 3), .int (ld xs x4 4)]) (rest := [.int r]) X cN_ok (cX_N _ _) (kX9_route h) (cwV 4 X.2.2.2.2 gL_law_X9_route rfl rfl rfl (by decide +kernel) ⟨Nat.le_of_ble_eq_true rfl, Nat.le_of_ble_eq_true rfl⟩) hw 0 8 rfl rfl rfl hl.1 rfl (Nat.le_of_ble_eq_true rfl) dL_law_976 ⟨by omega, by omega⟩ (fun r1 R1 H locs h hw => ?_)
  refine lv_icmp_eq (tgt := 1108) X.1 X.2.1 dL_law_979 (by decide) (fun _ => ?_) (fun c_ => absurd h.1.symm c_)
  refine W.widen (k := cells + 1) (n := slots + 12) (by omega) (by omega) ?_
  exact kk n C1 R1 η f H locs ls h.2 rfl (w_sw hw) hl
set_option maxHeartbeats 4000000 in
set_option maxRecDepth 100000 in
theorem bL_part (X : CallFix p m c cL_law 7 s args wsL_lawN RL) (hX : va_X b L xs s s.heap) (hbl : b < s.heap.size) (hbA : ¬ A b) (hi1 : vp_in (x4 + 1) L) (h : Rel i n C R) (hw : Wd (cX σ) D (Ky κ) A s ((oE κ o f ++ mw κ ηm R) ++ cw κ η n C) H locs) (hl : lv_has ls 7 [(0, .ref b), (1, .ref (η 0)), (2, .ref (ηm 0)), (3, .ref o), (4, .int x4)]) (hc : cells + 1 ≤ room_1.cells) (hs : slots + 12 ≤ room_1.slots)
    (kk : ∀ (n1 : Nat) (C1 R1 : Sg) (η1 : Nat → Nat) (f1 : Nat → Int64) (H : Heap) (locs : List Loc) (ls : Array Slot), Rel (i + 1) n1 C1 R1 → η1 0 = η 0 → Wd (cX σ) D (Ky κ) A s ((oE κ o f1 ++ mw κ ηm R1) ++ cw κ η1 n1 C1) H locs → lv_has ls 7 [(0, .ref b), (1, .ref (η 0)), (2, .ref (ηm 0)), (3, .ref o), (4, .int x4)] → W p l e room_1 s m args below meth c H locs (cells + 1) (slots + 12) QQ (F0 m 1108 ls [])) : W p l e room_1 s m args below meth c H locs cells slots QQ (F0 m 984 ls []) := by
  refine lv_aload_n X.1 X.2.1 dL_law_984 rfl (lv_at hl 1 rfl) ?_
  refine l_ld (t := (1 : Int32)) X hX hbl hbA hw.2.2.1 hl hi1 dL_law_985 dL_law_986 dL_law_988 (by decide) dL_law_989 dL_law_990 ?_
  refine r_FKi (wd := cw κ η n) (As := [.int (ld xs x4 1)]) (rest := []) X cN_ok (cX_N _ _) (kX8_part (op_part h)) (cwV 1 X.2.2.2.2 gL_law_X8_part rfl rfl rfl (by decide +kernel) ⟨Nat.le_of_ble_eq_true rfl, Nat.le_of_ble_eq_true rfl⟩) hw 0 7 rfl rfl rfl hl.1 rfl (Nat.le_of_ble_eq_true rfl) dL_law_991 ⟨by omega, by omega⟩ (fun r C1 H locs h hw => ?_)
  have hw := w_sw hw
  refine lv_aload_n X.1 X.2.1 dL_law_994 rfl (lv_at hl 2 rfl) ?_
  refine l_ld (t := (1 : Int32)) X hX hbl hbA hw.2.2.1 hl hi1 dL_law_995 dL_law_996 dL_law_998 (by decide) dL_law_999 dL_law_1000 ?_
  refine r_FKi (wd := mw κ ηm) (As := [.int (ld xs x4 1)]) (rest := [.int r]) X cN_ok (cX_N _ _) (kX9_part_ h) (cwV 1 X.2.2.2.2 gL_law_X9_part_ rfl rfl rfl (by decide +kernel) ⟨Nat.le_of_ble_eq_true rfl, Nat.le_of_ble_eq_true rfl⟩) hw 0 8 rfl rfl rfl hl.1 rfl (Nat.le_of_ble_eq_true rfl) dL_law_1001 ⟨by omega, by omega⟩ (fun r1 R1 H locs h hw => ?_)
  refine lv_icmp_eq (tgt := 1108) X.1 X.2.1 dL_law_1004 (by decide) (fun _ => ?_) (fun c_ => absurd h.1.symm c_)
  refine W.widen (k := cells + 1) (n := slots + 12) (by omega) (by omega) ?_
  exact kk n C1 R1 η f H locs ls h.2 rfl (w_sw hw) hl
set_option maxHeartbeats 4000000 in
set_option maxRecDepth 100000 in
theorem bL_differs (X : CallFix p m c cL_law 7 s args wsL_lawN RL) (hX : va_X b L xs s s.heap) (hbl : b < s.heap.size) (hbA : ¬ A b) (hi1 : vp_in (x4 + 1) L) (hi2 : vp_in (x4 + 2) L) (h : Rel i n C R) (hi : i ≤ 100000) (hw : Wd (cX σ) D (Ky κ) A s ((oE κ o f ++ mw κ ηm R) ++ cw κ η n C) H locs) (hl : lv_has ls 7 [(0, .ref b), (1, .ref (η 0)), (2, .ref (ηm 0)), (3, .ref o), (4, .int x4)]) (hc : cells + 1 ≤ room_1.cells) (hs : slots + 12 ≤ room_1.slots)
    (kk : ∀ (n1 : Nat) (C1 R1 : Sg) (η1 : Nat → Nat) (f1 : Nat → Int64) (H : Heap) (locs : List Loc) (ls : Array Slot), Rel (i + 1) n1 C1 R1 → η1 0 = η 0 → Wd (cX σ) D (Ky κ) A s ((oE κ o f1 ++ mw κ ηm R1) ++ cw κ η1 n1 C1) H locs → lv_has ls 7 [(0, .ref b), (1, .ref (η 0)), (2, .ref (ηm 0)), (3, .ref o), (4, .int x4)] → W p l e room_1 s m args below meth c H locs (cells + 1) (slots + 12) QQ (F0 m 1108 ls [])) : W p l e room_1 s m args below meth c H locs cells slots QQ (F0 m 1009 ls []) := by
  refine lv_aload_n X.1 X.2.1 dL_law_1009 rfl (lv_at hl 1 rfl) ?_
  refine l_ld (t := (1 : Int32)) X hX hbl hbA hw.2.2.1 hl hi1 dL_law_1010 dL_law_1011 dL_law_1013 (by decide) dL_law_1014 dL_law_1015 ?_
  refine l_ld (t := (2 : Int32)) X hX hbl hbA hw.2.2.1 hl hi2 dL_law_1016 dL_law_1017 dL_law_1019 (by decide) dL_law_1020 dL_law_1021 ?_
  refine r_FKi (wd := cw κ η n) (As := [.int (ld xs x4 1), .int (ld xs x4 2)]) (rest := []) X cN_ok (cX_N _ _) (kX8_differs (op_differs h hi)) (cwV 2 X.2.2.2.2 gL_law_X8_differs rfl rfl rfl (by decide +kernel) ⟨Nat.le_of_ble_eq_true rfl, Nat.le_of_ble_eq_true rfl⟩) hw 0 7 rfl rfl rfl hl.1 rfl (Nat.le_of_ble_eq_true rfl) dL_law_1022 ⟨by omega, by omega⟩ (fun r C1 H locs h hw => ?_)
  have hw := w_sw hw
  refine lv_aload_n X.1 X.2.1 dL_law_1025 rfl (lv_at hl 2 rfl) ?_
  refine l_ld (t := (1 : Int32)) X hX hbl hbA hw.2.2.1 hl hi1 dL_law_1026 dL_law_1027 dL_law_1029 (by decide) dL_law_1030 dL_law_1031 ?_
  refine l_ld (t := (2 : Int32)) X hX hbl hbA hw.2.2.1 hl hi2 dL_law_1032 dL_law_1033 dL_law_1035 (by decide) dL_law_1036 dL_law_1037 ?_
  refine r_FKi (wd := mw κ ηm) (As := [.int (ld xs x4 1), .int (ld xs x4 2)]) (rest := [.int r]) X cN_ok (cX_N _ _) (kX9_differs h) (cwV 2 X.2.2.2.2 gL_law_X9_differs rfl rfl rfl (by decide +kernel) ⟨Nat.le_of_ble_eq_true rfl, Nat.le_of_ble_eq_true rfl⟩) hw 0 8 rfl rfl rfl hl.1 rfl (Nat.le_of_ble_eq_true rfl) dL_law_1038 ⟨by omega, by omega⟩ (fun r1 R1 H locs h hw => ?_)
  refine lv_icmp_eq (tgt := 1108) X.1 X.2.1 dL_law_1041 (by decide) (fun _ => ?_) (fun c_ => absurd h.1.symm c_)
  refine W.widen (k := cells + 1) (n := slots + 12) (by omega) (by omega) ?_
  exact kk n C1 R1 η f H locs ls h.2 rfl (w_sw hw) hl
set_option maxHeartbeats 4000000 in
set_option maxRecDepth 100000 in
theorem bL_count (X : CallFix p m c cL_law 7 s args wsL_lawN RL) (hX : va_X b L xs s s.heap) (hbl : b < s.heap.size) (hbA : ¬ A b) (hi1 : vp_in (x4 + 1) L) (h : Rel i n C R) (hw : Wd (cX σ) D (Ky κ) A s ((oE κ o f ++ mw κ ηm R) ++ cw κ η n C) H locs) (hl : lv_has ls 7 [(0, .ref b), (1, .ref (η 0)), (2, .ref (ηm 0)), (3, .ref o), (4, .int x4)]) (hc : cells + 1 ≤ room_1.cells) (hs : slots + 12 ≤ room_1.slots)
    (kk : ∀ (n1 : Nat) (C1 R1 : Sg) (η1 : Nat → Nat) (f1 : Nat → Int64) (H : Heap) (locs : List Loc) (ls : Array Slot), Rel (i + 1) n1 C1 R1 → η1 0 = η 0 → Wd (cX σ) D (Ky κ) A s ((oE κ o f1 ++ mw κ ηm R1) ++ cw κ η1 n1 C1) H locs → lv_has ls 7 [(0, .ref b), (1, .ref (η 0)), (2, .ref (ηm 0)), (3, .ref o), (4, .int x4)] → W p l e room_1 s m args below meth c H locs (cells + 1) (slots + 12) QQ (F0 m 1108 ls [])) : W p l e room_1 s m args below meth c H locs cells slots QQ (F0 m 1046 ls []) := by
  refine lv_aload_n X.1 X.2.1 dL_law_1046 rfl (lv_at hl 1 rfl) ?_
  refine l_ld (t := (1 : Int32)) X hX hbl hbA hw.2.2.1 hl hi1 dL_law_1047 dL_law_1048 dL_law_1050 (by decide) dL_law_1051 dL_law_1052 ?_
  refine r_FKi (wd := cw κ η n) (As := [.int (ld xs x4 1)]) (rest := []) X cN_ok (cX_N _ _) (kX8_count (op_count h)) (cwV 1 X.2.2.2.2 gL_law_X8_count rfl rfl rfl (by decide +kernel) ⟨Nat.le_of_ble_eq_true rfl, Nat.le_of_ble_eq_true rfl⟩) hw 0 7 rfl rfl rfl hl.1 rfl (Nat.le_of_ble_eq_true rfl) dL_law_1053 ⟨by omega, by omega⟩ (fun r C1 H locs h hw => ?_)
  have hw := w_sw hw
  refine lv_aload_n X.1 X.2.1 dL_law_1056 rfl (lv_at hl 2 rfl) ?_
  refine l_ld (t := (1 : Int32)) X hX hbl hbA hw.2.2.1 hl hi1 dL_law_1057 dL_law_1058 dL_law_1060 (by decide) dL_law_1061 dL_law_1062 ?_
  refine r_FKi (wd := mw κ ηm) (As := [.int (ld xs x4 1)]) (rest := [.int r]) X cN_ok (cX_N _ _) (kX9_count h) (cwV 1 X.2.2.2.2 gL_law_X9_count rfl rfl rfl (by decide +kernel) ⟨Nat.le_of_ble_eq_true rfl, Nat.le_of_ble_eq_true rfl⟩) hw 0 8 rfl rfl rfl hl.1 rfl (Nat.le_of_ble_eq_true rfl) dL_law_1063 ⟨by omega, by omega⟩ (fun r1 R1 H locs h hw => ?_)
  refine lv_icmp_eq (tgt := 1108) X.1 X.2.1 dL_law_1066 (by decide) (fun _ => ?_) (fun c_ => absurd h.1.symm c_)
  refine W.widen (k := cells + 1) (n := slots + 12) (by omega) (by omega) ?_
  exact kk n C1 R1 η f H locs ls h.2 rfl (w_sw hw) hl
set_option maxHeartbeats 4000000 in
set_option maxRecDepth 100000 in
theorem bL_load (X : CallFix p m c cL_law 7 s args wsL_lawN RL) (hX : va_X b L xs s s.heap) (hbl : b < s.heap.size) (hbA : ¬ A b) (hi1 : vp_in (x4 + 1) L) (hi2 : vp_in (x4 + 2) L) (h : Rel i n C R) (hw : Wd (cX σ) D (Ky κ) A s ((oE κ o f ++ mw κ ηm R) ++ cw κ η n C) H locs) (hl : lv_has ls 7 [(0, .ref b), (1, .ref (η 0)), (2, .ref (ηm 0)), (3, .ref o), (4, .int x4)]) (hc : cells + 1 ≤ room_1.cells) (hs : slots + 12 ≤ room_1.slots)
    (kk : ∀ (n1 : Nat) (C1 R1 : Sg) (η1 : Nat → Nat) (f1 : Nat → Int64) (H : Heap) (locs : List Loc) (ls : Array Slot), Rel (i + 1) n1 C1 R1 → η1 0 = η 0 → Wd (cX σ) D (Ky κ) A s ((oE κ o f1 ++ mw κ ηm R1) ++ cw κ η1 n1 C1) H locs → lv_has ls 7 [(0, .ref b), (1, .ref (η 0)), (2, .ref (ηm 0)), (3, .ref o), (4, .int x4)] → W p l e room_1 s m args below meth c H locs (cells + 1) (slots + 12) QQ (F0 m 1108 ls [])) : W p l e room_1 s m args below meth c H locs cells slots QQ (F0 m 1071 ls []) := by
  refine lv_aload_n X.1 X.2.1 dL_law_1071 rfl (lv_at hl 1 rfl) ?_
  refine l_ld (t := (1 : Int32)) X hX hbl hbA hw.2.2.1 hl hi1 dL_law_1072 dL_law_1073 dL_law_1075 (by decide) dL_law_1076 dL_law_1077 ?_
  refine l_ld (t := (2 : Int32)) X hX hbl hbA hw.2.2.1 hl hi2 dL_law_1078 dL_law_1079 dL_law_1081 (by decide) dL_law_1082 dL_law_1083 ?_
  refine r_FKi (wd := cw κ η n) (As := [.int (ld xs x4 1), .int (ld xs x4 2)]) (rest := []) X cN_ok (cX_N _ _) (kX8_load (op_load h)) (cwV 2 X.2.2.2.2 gL_law_X8_load rfl rfl rfl (by decide +kernel) ⟨Nat.le_of_ble_eq_true rfl, Nat.le_of_ble_eq_true rfl⟩) hw 0 7 rfl rfl rfl hl.1 rfl (Nat.le_of_ble_eq_true rfl) dL_law_1084 ⟨by omega, by omega⟩ (fun r C1 H locs h hw => ?_)
  have hw := w_sw hw
  refine lv_aload_n X.1 X.2.1 dL_law_1087 rfl (lv_at hl 2 rfl) ?_
  refine l_ld (t := (1 : Int32)) X hX hbl hbA hw.2.2.1 hl hi1 dL_law_1088 dL_law_1089 dL_law_1091 (by decide) dL_law_1092 dL_law_1093 ?_
  refine l_ld (t := (2 : Int32)) X hX hbl hbA hw.2.2.1 hl hi2 dL_law_1094 dL_law_1095 dL_law_1097 (by decide) dL_law_1098 dL_law_1099 ?_
  refine r_FKi (wd := mw κ ηm) (As := [.int (ld xs x4 1), .int (ld xs x4 2)]) (rest := [.int r]) X cN_ok (cX_N _ _) (kX9_load h) (cwV 2 X.2.2.2.2 gL_law_X9_load rfl rfl rfl (by decide +kernel) ⟨Nat.le_of_ble_eq_true rfl, Nat.le_of_ble_eq_true rfl⟩) hw 0 8 rfl rfl rfl hl.1 rfl (Nat.le_of_ble_eq_true rfl) dL_law_1100 ⟨by omega, by omega⟩ (fun r1 R1 H locs h hw => ?_)
  refine lv_icmp_eq (tgt := 1108) X.1 X.2.1 dL_law_1103 (by decide) (fun _ => ?_) (fun c_ => absurd h.1.symm c_)
  refine W.widen (k := cells + 1) (n := slots + 12) (by omega) (by omega) ?_
  exact kk n C1 R1 η f H locs ls h.2 rfl (w_sw hw) hl
end LB3
