theorem inX8_learner_X0 : ∀ w ∈ wsX00, w ∈ wsX8_learner := fun w h => List.mem_cons_of_mem _ (List.mem_append_right _ h)
theorem inX8_learner_X1 : ∀ w ∈ wsX10, w ∈ wsX8_learner := fun w h => List.mem_cons_of_mem _ (List.mem_append_left _ (List.mem_append_right _ h))
theorem inX8_learner_X8 : ∀ w ∈ wsX80, w ∈ wsX8_learner := fun w h => List.mem_cons_of_mem _ (List.mem_append_left _ (List.mem_append_left _ (List.mem_append_right _ h)))

abbrev rmX8_learner : Room := { frames := 3, cells := 1, slots := 12, locals := 80 }

/-- the state with one learner more -/
def nlM (M : Sg) (n : Nat) (x1 x2 x3 x4 x5 x6 : Int32) : Sg := sI (sA (sA (sA (sA (sA (sA (sA (sA (sA (sA (sA (sA M 50 n (gI M 23)) 51 n (gI M 1)) 52 n x1) 53 n x2) 54 n x3) 55 n x4) 56 n x5) 57 n x6) 58 n 0) 59 n (-1)) 60 n 0) 61 n 0) 23 (gI M 23 + 1)
def wLT (n : Nat) (M : Sg) (x1 x2 x3 x4 x5 x6 : Int32) (Q : Nat → Sg → Int32 → Prop) : Prop := gI M 23 = nI n ∧ n < 60 ∧ narrow .boolean (.int x6) = .int x6 ∧ fits .boolean (.int x6) = true ∧ Q (n + 1) (nlM M n x1 x2 x3 x4 x5 x6) (gI M 23)
theorem cw_len (κ : Nat → ClassId) (η : Nat → Nat) (n : Nat) (M : Sg) : (cw κ η n M).length = 49 + n := by
  unfold cw
  rw [List.length_append, List.length_append, cfx_len, List.length_map, List.length_map, List.length_range, List.length_range]
  omega
theorem last_get {w : va_W} {x : Nat × va_E} {k : Nat} (h : w.length = k) : (w ++ [x])[k]? = some x := by
  subst h
  rw [List.getElem?_append_right (Nat.le_refl _), Nat.sub_self]
  rfl
theorem last_set {w : va_W} {x y : Nat × va_E} {k : Nat} (h : w.length = k) : (w ++ [x]).set k y = w ++ [y] := by
  subst h
  rw [List.set_append_right _ _ (Nat.le_refl _), Nat.sub_self]
  rfl
theorem nl_cfx {κ : Nat → ClassId} {η : Nat → Nat} {n q : Nat} {M : Sg} {x1 x2 x3 x4 x5 x6 : Int32} : cfx κ (va_up η (49 + n) q) (n + 1) (nlM M n x1 x2 x3 x4 x5 x6) = ((cfx κ η n M).set 8 (η 8, .inl (κ 4, 60, .inr (.inr (.inr (.inr (va_up (fun i => if i < n then some (η (49 + i)) else none) n (some q)))))))).set 0 (η 0, .inr (7, (cf0 η M).set 9 (.int (gI M 23 + 1)))) := by
  have eη : ∀ k, k < 49 → va_up η (49 + n) q k = η k := fun k h => va_up_ne _ _ (by omega)
  have e1 : (fun i => if i < n + 1 then some (va_up η (49 + n) q (49 + i)) else none : Nat → Option Nat) = va_up (fun i => if i < n then some (η (49 + i)) else none) n (some q) := funext fun i => by
    by_cases h : i = n
    · subst h
      rw [va_up_self, if_pos (Nat.lt_succ_self _), va_up_self]
    · rw [va_up_ne _ _ h]
      by_cases h2 : i < n
      · rw [if_pos h2, if_pos (by omega), va_up_ne _ _ (by omega)]
      · rw [if_neg h2, if_neg (by omega)]
  have e2 : (fun i => if i < 12 then some (va_up η (49 + n) q (37 + i)) else none : Nat → Option Nat) = fun i => if i < 12 then some (η (37 + i)) else none := funext fun i => by
    by_cases h2 : i < 12
    · rw [if_pos h2, if_pos h2, eη _ (by omega)]
    · rw [if_neg h2, if_neg h2]
  have eA : ∀ a, a < 50 → gA (nlM M n x1 x2 x3 x4 x5 x6) a = gA M a := fun a h => by
    unfold nlM
    rw [gA_sI, gA_sA, if_neg (by omega), gA_sA, if_neg (by omega), gA_sA, if_neg (by omega), gA_sA, if_neg (by omega), gA_sA, if_neg (by omega), gA_sA, if_neg (by omega), gA_sA, if_neg (by omega), gA_sA, if_neg (by omega), gA_sA, if_neg (by omega), gA_sA, if_neg (by omega), gA_sA, if_neg (by omega), gA_sA, if_neg (by omega)]
  have eI : ∀ k, k ≠ 23 → gI (nlM M n x1 x2 x3 x4 x5 x6) k = gI M k := fun k h => by
    unfold nlM
    rw [gI_sI, if_neg h]
    rfl
  have e3 : gI (nlM M n x1 x2 x3 x4 x5 x6) 23 = gI M 23 + 1 := rfl
  unfold cfx cf0 cf1 cf2 cf3 cf4 cf5 cf6 cf7
  rw [e1, e2, e3]
  simp only [eη _ (show 0 < 49 by decide), eη _ (show 1 < 49 by decide), eη _ (show 2 < 49 by decide), eη _ (show 3 < 49 by decide), eη _ (show 4 < 49 by decide), eη _ (show 5 < 49 by decide), eη _ (show 6 < 49 by decide), eη _ (show 7 < 49 by decide), eη _ (show 8 < 49 by decide), eη _ (show 9 < 49 by decide), eη _ (show 10 < 49 by decide), eη _ (show 11 < 49 by decide), eη _ (show 12 < 49 by decide), eη _ (show 13 < 49 by decide), eη _ (show 14 < 49 by decide), eη _ (show 15 < 49 by decide), eη _ (show 16 < 49 by decide), eη _ (show 17 < 49 by decide), eη _ (show 18 < 49 by decide), eη _ (show 19 < 49 by decide), eη _ (show 20 < 49 by decide), eη _ (show 21 < 49 by decide), eη _ (show 22 < 49 by decide), eη _ (show 23 < 49 by decide), eη _ (show 24 < 49 by decide), eη _ (show 25 < 49 by decide), eη _ (show 26 < 49 by decide), eη _ (show 27 < 49 by decide), eη _ (show 28 < 49 by decide), eη _ (show 29 < 49 by decide), eη _ (show 30 < 49 by decide), eη _ (show 31 < 49 by decide), eη _ (show 32 < 49 by decide), eη _ (show 33 < 49 by decide), eη _ (show 34 < 49 by decide), eη _ (show 35 < 49 by decide), eη _ (show 36 < 49 by decide), eA _ (show 0 < 50 by decide), eA _ (show 1 < 50 by decide), eA _ (show 2 < 50 by decide), eA _ (show 3 < 50 by decide), eA _ (show 4 < 50 by decide), eA _ (show 5 < 50 by decide), eA _ (show 6 < 50 by decide), eA _ (show 7 < 50 by decide), eA _ (show 8 < 50 by decide), eA _ (show 9 < 50 by decide), eA _ (show 10 < 50 by decide), eA _ (show 11 < 50 by decide), eA _ (show 12 < 50 by decide), eA _ (show 13 < 50 by decide), eA _ (show 14 < 50 by decide), eA _ (show 15 < 50 by decide), eA _ (show 16 < 50 by decide), eA _ (show 17 < 50 by decide), eA _ (show 18 < 50 by decide), eA _ (show 19 < 50 by decide), eA _ (show 20 < 50 by decide), eA _ (show 21 < 50 by decide), eA _ (show 22 < 50 by decide), eA _ (show 23 < 50 by decide), eA _ (show 24 < 50 by decide), eA _ (show 25 < 50 by decide), eA _ (show 26 < 50 by decide), eI 0 (by decide), eI 1 (by decide), eI 2 (by decide), eI 3 (by decide), eI 4 (by decide), eI 5 (by decide), eI 6 (by decide), eI 7 (by decide), eI 8 (by decide), eI 9 (by decide), eI 10 (by decide), eI 11 (by decide), eI 12 (by decide), eI 13 (by decide), eI 14 (by decide), eI 15 (by decide), eI 16 (by decide), eI 17 (by decide), eI 18 (by decide), eI 19 (by decide), eI 20 (by decide), eI 21 (by decide), eI 22 (by decide), eI 24 (by decide), eI 25 (by decide)]
  rfl
theorem nl_cw {κ : Nat → ClassId} {η : Nat → Nat} {n q : Nat} {M : Sg} {x1 x2 x3 x4 x5 x6 : Int32} : cw κ (va_up η (49 + n) q) (n + 1) (nlM M n x1 x2 x3 x4 x5 x6) = (((cw κ η n M ++ ([(q, .inr (1, [.int (gI M 23), .int (gI M 1), .int x1, .int x2, .int x3, .int x4, .int x5, .int x6, .int 0, .int (-1), .int 0, .int 0]))] : va_W)).set 8 (η 8, .inl (κ 4, 60, .inr (.inr (.inr (.inr (va_up (fun i => if i < n then some (η (49 + i)) else none) n (some q)))))))).set 0 (η 0, .inr (7, (cf0 η M).set 9 (.int (gI M 23 + 1))))) := by
  have r1 : (List.range 12).map (crw κ (va_up η (49 + n) q) (nlM M n x1 x2 x3 x4 x5 x6)) = (List.range 12).map (crw κ η M) := by
    apply List.map_congr_left
    intro i hi
    have hi := List.mem_range.mp hi
    unfold crw nlM
    rw [va_up_ne _ _ (by omega), gA_sI, gA_sA, if_neg (by omega), gA_sA, if_neg (by omega), gA_sA, if_neg (by omega), gA_sA, if_neg (by omega), gA_sA, if_neg (by omega), gA_sA, if_neg (by omega), gA_sA, if_neg (by omega), gA_sA, if_neg (by omega), gA_sA, if_neg (by omega), gA_sA, if_neg (by omega), gA_sA, if_neg (by omega), gA_sA, if_neg (by omega)]
  have r2 : (List.range (n + 1)).map (clr (va_up η (49 + n) q) (nlM M n x1 x2 x3 x4 x5 x6)) = (List.range n).map (clr η M) ++ [(q, .inr (1, [.int (gI M 23), .int (gI M 1), .int x1, .int x2, .int x3, .int x4, .int x5, .int x6, .int 0, .int (-1), .int 0, .int 0]))] := by
    rw [List.range_succ, List.map_append]
    congr 1
    · apply List.map_congr_left
      intro i hi
      have hi := List.mem_range.mp hi
      have hne : i ≠ n := by omega
      unfold clr lfl nlM
      rw [va_up_ne _ _ (by omega)]
      simp [gA_sI, gA_sA, upd, hne]
    · unfold nlM
      simp [clr, lfl, gA_sI, gA_sA, upd, va_up]
  unfold cw
  rw [nl_cfx, r1, r2, ← List.append_assoc, ← List.append_assoc]
  rfl
set_option maxHeartbeats 4000000 in
set_option maxRecDepth 100000 in
theorem learner_tail {p : Program} {l : Launch} {e : Env} {s : State} {m : MethodId} {args : Array Value} {below : List Frame} {meth : Method} {c : Code} {D : va_G} {κ : Nat → ClassId} {η : Nat → Nat} {σ : (Nat → Nat) × (Nat → Nat)} {A : Nat → Prop} {n : Nat} {Q : Nat → Sg → Int32 → Prop} {M : Sg} {x1 x2 x3 x4 x5 x6 : Int32} {H : Heap} {locs : List Loc} {ls : Array Slot} (X : CallFix p m c cX8_learner 8 s args wsX8_learner RX8) (hr : meth.sig.returnType = some .int) (hlk : meth.locks = false) (hw : Wd (cN σ) D (Ky κ) A s (cw κ η n M) H locs) (hl : lv_has ls 8 [(0, .ref (η 0)), (1, .int x1), (2, .int x2), (3, .int x3), (4, .int x4), (5, .int x5), (6, .int x6)]) (h : wLT n M x1 x2 x3 x4 x5 x6 Q) :
    W p l e rmX8_learner s m args below meth c H locs 0 0 (MQ below (Qx D κ A (η 0) Q) args s 1 12 A) (F0 m 62 ls []) := by
  obtain ⟨hc, hn, hnar, hfit, hq⟩ := h
  have hlen := cw_len κ η n M
  refine r_new (ci := 1) (fs := [.int 0, .int 0, .int 0, .int 0, .int 0, .int 0, .int 0, .int 0, .int 0, .int 0, .int 0, .int 0]) (C := RX1) (T := TX1) (NN := 12) X hw inX8_learner_X1 tyX1_ok (X.2.2.2.2 _ (by decide +kernel)) (X.2.2.2.2 _ (by decide +kernel)) (X.2.2.2.2 _ (by decide +kernel)) rfl (fun j hj => by rcases (show j = 0 ∨ j = 1 ∨ j = 2 ∨ j = 3 ∨ j = 4 ∨ j = 5 ∨ j = 6 ∨ j = 7 ∨ j = 8 ∨ j = 9 ∨ j = 10 ∨ j = 11 by omega) with rfl | rfl | rfl | rfl | rfl | rfl | rfl | rfl | rfl | rfl | rfl | rfl <;> rfl) (Nat.le_of_ble_eq_true rfl) (Nat.le_of_ble_eq_true rfl) dX8_learner_62 (fun q H hw => ?_)
  refine lv_dup X.1 X.2.1 dX8_learner_65 rfl ?_
  refine lv_aload_n X.1 X.2.1 dX8_learner_66 rfl (lv_at hl 0 rfl) ?_
  refine r_gf X inX8_learner_X8 hw 0 rfl rfl 9 (by decide) (X.2.2.2.2 (.fieldLink RX8 64 "TestHall" "learnerCount" "I") (by decide +kernel)) rfl rfl dX8_learner_67 ?_
  refine lv_aload_n X.1 X.2.1 dX8_learner_70 rfl (lv_at hl 0 rfl) ?_
  refine r_gf X inX8_learner_X8 hw 0 rfl rfl 0 (by decide) (X.2.2.2.2 (.fieldLink RX8 12 "TestHall" "calendar" "LTestHall$Calendar;") (by decide +kernel)) rfl rfl dX8_learner_71 ?_
  refine r_gf X inX8_learner_X0 hw 1 rfl rfl 6 (by decide) (X.2.2.2.2 (.fieldLink RX8 80 "TestHall$Calendar" "now" "I") (by decide +kernel)) rfl rfl dX8_learner_74 ?_
  refine r_ctor (As := [.int (gI M 23), .int (gI M 1)]) (rest := [.ref q]) X cN_ok (kX1_init (a := gI M 23) (b := gI M 1) cN_ok) (cwI 2 X.2.2.2.2 gX8_learner_X1_init rfl rfl rfl (X.2.2.2.2 _ (by decide +kernel)) (X.2.2.2.2 _ (by decide +kernel)) (X.2.2.2.2 _ (by decide +kernel)) rfl (by decide +kernel) ⟨Nat.le_of_ble_eq_true rfl, Nat.le_of_ble_eq_true rfl⟩) hw rfl hl.1 rfl (Nat.le_of_ble_eq_true rfl) dX8_learner_77 ⟨Nat.le_of_ble_eq_true rfl, Nat.le_of_ble_eq_true rfl⟩ (fun u_ H locs _ hw => ?_)
  refine lv_astore (lv' := [(7, .ref q), (0, .ref (η 0)), (1, .int x1), (2, .int x2), (3, .int x3), (4, .int x4), (5, .int x5), (6, .int x6)]) X.1 X.2.1 dX8_learner_80 hl (by decide) rfl (fun ls hl => ?_)
  refine lv_aload X.1 X.2.1 dX8_learner_82 (lv_at hl 0 rfl) ?_
  refine lv_iload_n X.1 X.2.1 dX8_learner_84 rfl (lv_at hl 2 rfl) ?_
  refine r_pf (ty := .int) (w' := cw κ η n M ++ [(q, .inr (1, [.int (gI M 23), .int (gI M 1), .int (x1), .int (0), .int (0), .int (0), .int (0), .int (0), .int (0), .int (-1), .int (0), .int (0)]))]) X inX8_learner_X1 tyX1_ok nmX1 hw (49 + n) (last_get hlen) rfl 2 (by decide) (X.2.2.2.2 (.fieldLink RX8 97 "TestHall$Learner" "town" "I") (by decide +kernel)) rfl rfl (by decide +kernel) rfl rfl (Nat.le_of_ble_eq_true rfl) (last_set hlen) dX8_learner_85 (fun H locs hw => ?_)
  refine lv_aload X.1 X.2.1 dX8_learner_88 (lv_at hl 0 rfl) ?_
  refine lv_iload_n X.1 X.2.1 dX8_learner_90 rfl (lv_at hl 3 rfl) ?_
  refine r_pf (ty := .int) (w' := cw κ η n M ++ [(q, .inr (1, [.int (gI M 23), .int (gI M 1), .int (x1), .int (x2), .int (0), .int (0), .int (0), .int (0), .int (0), .int (-1), .int (0), .int (0)]))]) X inX8_learner_X1 tyX1_ok nmX1 hw (49 + n) (last_get hlen) rfl 3 (by decide) (X.2.2.2.2 (.fieldLink RX8 100 "TestHall$Learner" "sort" "I") (by decide +kernel)) rfl rfl (by decide +kernel) rfl rfl (Nat.le_of_ble_eq_true rfl) (last_set hlen) dX8_learner_91 (fun H locs hw => ?_)
  refine lv_aload X.1 X.2.1 dX8_learner_94 (lv_at hl 0 rfl) ?_
  refine lv_iload_n X.1 X.2.1 dX8_learner_96 rfl (lv_at hl 4 rfl) ?_
  refine r_pf (ty := .int) (w' := cw κ η n M ++ [(q, .inr (1, [.int (gI M 23), .int (gI M 1), .int (x1), .int (x2), .int (x3), .int (0), .int (0), .int (0), .int (0), .int (-1), .int (0), .int (0)]))]) X inX8_learner_X1 tyX1_ok nmX1 hw (49 + n) (last_get hlen) rfl 4 (by decide) (X.2.2.2.2 (.fieldLink RX8 103 "TestHall$Learner" "from" "I") (by decide +kernel)) rfl rfl (by decide +kernel) rfl rfl (Nat.le_of_ble_eq_true rfl) (last_set hlen) dX8_learner_97 (fun H locs hw => ?_)
  refine lv_aload X.1 X.2.1 dX8_learner_100 (lv_at hl 0 rfl) ?_
  refine lv_iload X.1 X.2.1 dX8_learner_102 (lv_at hl 5 rfl) ?_
  refine r_pf (ty := .int) (w' := cw κ η n M ++ [(q, .inr (1, [.int (gI M 23), .int (gI M 1), .int (x1), .int (x2), .int (x3), .int (x4), .int (0), .int (0), .int (0), .int (-1), .int (0), .int (0)]))]) X inX8_learner_X1 tyX1_ok nmX1 hw (49 + n) (last_get hlen) rfl 5 (by decide) (X.2.2.2.2 (.fieldLink RX8 106 "TestHall$Learner" "to" "I") (by decide +kernel)) rfl rfl (by decide +kernel) rfl rfl (Nat.le_of_ble_eq_true rfl) (last_set hlen) dX8_learner_104 (fun H locs hw => ?_)
  refine lv_aload X.1 X.2.1 dX8_learner_107 (lv_at hl 0 rfl) ?_
  refine lv_iload X.1 X.2.1 dX8_learner_109 (lv_at hl 6 rfl) ?_
  refine r_pf (ty := .int) (w' := cw κ η n M ++ [(q, .inr (1, [.int (gI M 23), .int (gI M 1), .int (x1), .int (x2), .int (x3), .int (x4), .int (x5), .int (0), .int (0), .int (-1), .int (0), .int (0)]))]) X inX8_learner_X1 tyX1_ok nmX1 hw (49 + n) (last_get hlen) rfl 6 (by decide) (X.2.2.2.2 (.fieldLink RX8 109 "TestHall$Learner" "wish" "I") (by decide +kernel)) rfl rfl (by decide +kernel) rfl rfl (Nat.le_of_ble_eq_true rfl) (last_set hlen) dX8_learner_111 (fun H locs hw => ?_)
  refine lv_aload X.1 X.2.1 dX8_learner_114 (lv_at hl 0 rfl) ?_
  refine lv_iload X.1 X.2.1 dX8_learner_116 (lv_at hl 7 rfl) ?_
  refine r_pf (ty := .boolean) (w' := cw κ η n M ++ [(q, .inr (1, [.int (gI M 23), .int (gI M 1), .int (x1), .int (x2), .int (x3), .int (x4), .int (x5), .int (x6), .int (0), .int (-1), .int (0), .int (0)]))]) X inX8_learner_X1 tyX1_ok nmX1 hw (49 + n) (last_get hlen) rfl 7 (by decide) (X.2.2.2.2 (.fieldLink RX8 112 "TestHall$Learner" "sooner" "Z") (by decide +kernel)) rfl rfl (by decide +kernel) hnar hfit (Nat.le_of_ble_eq_true rfl) (last_set hlen) dX8_learner_118 (fun H locs hw => ?_)
  refine lv_aload_n X.1 X.2.1 dX8_learner_121 rfl (lv_at hl 1 rfl) ?_
  refine r_gf X inX8_learner_X8 hw 0 rfl rfl 1 (by decide) (X.2.2.2.2 (.fieldLink RX8 18 "TestHall" "learners" "[LTestHall$Learner;") (by decide +kernel)) rfl rfl dX8_learner_122 ?_
  refine lv_aload_n X.1 X.2.1 dX8_learner_125 rfl (lv_at hl 1 rfl) ?_
  refine r_gf X inX8_learner_X8 hw 0 rfl rfl 9 (by decide) (X.2.2.2.2 (.fieldLink RX8 64 "TestHall" "learnerCount" "I") (by decide +kernel)) rfl rfl dX8_learner_126 ?_
  refine lv_aload X.1 X.2.1 dX8_learner_129 (lv_at hl 0 rfl) ?_
  obtain ⟨hP, hD, hS, hK, hA, hN⟩ := hw
  have hin : vp_in (gI M 23) 60 := by rw [hc]; exact vp_in_nI hn (by decide)
  refine va_astq (r := (RX1, TX1, 12)) X.1 X.2.1 hK hP hD hS 8 4 (49 + n) 1 rfl rfl (last_get hlen) rfl hin dX8_learner_131 (fun H locs hP hD hS => ?_)
  rw [show (gI M 23).toNatClampNeg = n by rw [hc]; exact nI_clamp (by omega)] at hP hD
  have hw : Wd (cN σ) D (Ky κ) A s ((cw κ η n M ++ ([(q, .inr (1, [.int (gI M 23), .int (gI M 1), .int x1, .int x2, .int x3, .int x4, .int x5, .int x6, .int 0, .int (-1), .int 0, .int 0]))] : va_W)).set 8 (η 8, .inl (κ 4, 60, .inr (.inr (.inr (.inr (va_up (fun i => if i < n then some (η (49 + i)) else none) n (some q)))))))) H locs := ⟨hP, hD, hS, hK, hA, hN⟩
  refine lv_aload_n X.1 X.2.1 dX8_learner_132 rfl (lv_at hl 1 rfl) ?_
  refine lv_dup X.1 X.2.1 dX8_learner_133 rfl ?_
  refine r_gf X inX8_learner_X8 hw 0 rfl rfl 9 (by decide) (X.2.2.2.2 (.fieldLink RX8 64 "TestHall" "learnerCount" "I") (by decide +kernel)) rfl rfl dX8_learner_134 ?_
  refine lv_iconst (v := (1 : Int32)) X.1 X.2.1 dX8_learner_137 (by decide) ?_
  refine lv_iadd X.1 X.2.1 dX8_learner_138 ?_
  refine r_pf (ty := .int) (w' := cw κ (va_up η (49 + n) q) (n + 1) (nlM M n x1 x2 x3 x4 x5 x6)) X inX8_learner_X8 tyX8_ok nmX8 hw 0 rfl rfl 9 (by decide) (X.2.2.2.2 (.fieldLink RX8 64 "TestHall" "learnerCount" "I") (by decide +kernel)) rfl rfl (by decide +kernel) rfl rfl (Nat.le_of_ble_eq_true rfl) nl_cw.symm dX8_learner_139 (fun H locs hw => ?_)
  refine lv_aload X.1 X.2.1 dX8_learner_142 (lv_at hl 0 rfl) ?_
  have hq0 : va_up η (49 + n) q (49 + n) = q := va_up_self _ _ _
  have hg := cw_lrn (κ := κ) (η := va_up η (49 + n) q) (n := n + 1) (M := nlM M n x1 x2 x3 x4 x5 x6) (Nat.lt_succ_self n)
  rw [hq0] at hg
  have hv0 : (lfl (nlM M n x1 x2 x3 x4 x5 x6) n)[0]? = some (.int (gI M 23)) := by
    unfold nlM
    simp [lfl, gA_sI, gA_sA, upd]
  refine r_gf X inX8_learner_X1 hw (49 + n) hg rfl 0 (by decide) (X.2.2.2.2 (.fieldLink RX8 116 "TestHall$Learner" "number" "I") (by decide +kernel)) rfl hv0 dX8_learner_144 ?_
  exact r_xret X hr hlk hw (va_up_ne _ _ (by omega)) hq (Nat.le_of_ble_eq_true rfl) (Nat.le_of_ble_eq_true rfl) dX8_learner_147

def wX8_learner (n : Nat) (M : Sg) (a1 : Int32) (a2 : Int32) (a3 : Int32) (a4 : Int32) (a5 : Int32) (a6 : Int32) (Q : Nat → Sg → Int32 → Prop) : Prop := (wX8_isWithin n M a1 (0 : Int32) (5 : Int32) (fun M_1 r_2 => ((r_2 = 0 → (Q n M_1 (-1 : Int32))) ∧ (¬ r_2 = 0 → (wX8_isWithin n M_1 a2 (0 : Int32) (3 : Int32) (fun M_3 r_4 => ((¬ r_4 = 0 → (wX8_isDay n M_3 a3 (fun M_5 r_6 => ((r_6 = 0 → (Q n M_5 (-1 : Int32))) ∧ (¬ r_6 = 0 → (wX8_isDay n M_5 a4 (fun M_7 r_8 => ((r_8 = 0 → (Q n M_7 (-1 : Int32))) ∧ (¬ r_8 = 0 → (wX8_isDay n M_7 a5 (fun M_9 r_10 => ((r_10 = 0 → (Q n M_9 (-1 : Int32))) ∧ (¬ r_10 = 0 → ((a3 ≤ a4 → (((gI M_9 23) < (60 : Int32) → (wLT n M_9 a1 a2 a3 a4 a5 a6 Q)) ∧ (¬ (gI M_9 23) < (60 : Int32) → (Q n M_9 (-1 : Int32))))) ∧ (¬ a3 ≤ a4 → (Q n M_9 (-1 : Int32))))))))))))))))) ∧ (r_4 = 0 → (Q n M_3 (-1 : Int32))))))))))

set_option maxHeartbeats 4000000 in
set_option maxRecDepth 100000 in
theorem kX8_learner {l : Launch} {D : va_G} {κ : Nat → ClassId} {η : Nat → Nat} {σ : (Nat → Nat) × (Nat → Nat)} {n : Nat} {M : Sg} {a1 : Int32} {a2 : Int32} {a3 : Int32} {a4 : Int32} {a5 : Int32} {a6 : Int32} {Q : Nat → Sg → Int32 → Prop} (h : wX8_learner n M a1 a2 a3 a4 a5 a6 Q) : Kx (cN σ) D κ η n l yX8_learner wsX8_learner rmX8_learner [.ref (η 0), .int a1, .int a2, .int a3, .int a4, .int a5, .int a6] M Q 1 12 := by
  refine ofW_x (cc := cX8_learner) (maxL := 8) (ret := some .int) (by decide) rfl (Nat.le_of_ble_eq_true rfl) ?_
  intro p e s m args below meth c A ls X hr hlk hw hl
  have hl : lv_has ls 8 [(0, .ref (η 0)), (1, .int a1), (2, .int a2), (3, .int a3), (4, .int a4), (5, .int a5), (6, .int a6)] := hl
  refine lv_iload_n X.1 X.2.1 dX8_learner_0 rfl (lv_at hl 1 rfl) ?_
  refine lv_iconst (v := (0 : Int32)) X.1 X.2.1 dX8_learner_1 (by decide) ?_
  refine lv_iconst (v := (5 : Int32)) X.1 X.2.1 dX8_learner_2 (by decide) ?_
  refine r_Si (As := [.int a1, .int (0 : Int32), .int (5 : Int32)]) (rest := []) X cN_ok (kX8_isWithin h) (va_cwS 3 X.2.2.2.2 gX8_learner_X8_isWithin rfl rfl rfl (by decide +kernel) ⟨Nat.le_of_ble_eq_true rfl, Nat.le_of_ble_eq_true rfl⟩) hw rfl hl.1 rfl (Nat.le_of_ble_eq_true rfl) dX8_learner_3 (fun r_2 M_1 H locs h hw => ?_)
  obtain ⟨ht_, hf_⟩ := h
  refine lv_if_eq (tgt := 18) X.1 X.2.1 dX8_learner_6 (by decide) (fun c_ => ?_) (fun c_ => ?_)
  · have h := ht_ c_
    refine lv_iconst (v := (-1 : Int32)) X.1 X.2.1 dX8_learner_18 (by decide) ?_
    exact r_xret X hr hlk hw rfl h (Nat.zero_le _) (Nat.zero_le _) dX8_learner_19
  · have h := hf_ c_
    refine lv_iload_n X.1 X.2.1 dX8_learner_9 rfl (lv_at hl 2 rfl) ?_
    refine lv_iconst (v := (0 : Int32)) X.1 X.2.1 dX8_learner_10 (by decide) ?_
    refine lv_iconst (v := (3 : Int32)) X.1 X.2.1 dX8_learner_11 (by decide) ?_
    refine r_Si (As := [.int a2, .int (0 : Int32), .int (3 : Int32)]) (rest := []) X cN_ok (kX8_isWithin h) (va_cwS 3 X.2.2.2.2 gX8_learner_X8_isWithin rfl rfl rfl (by decide +kernel) ⟨Nat.le_of_ble_eq_true rfl, Nat.le_of_ble_eq_true rfl⟩) hw rfl hl.1 rfl (Nat.le_of_ble_eq_true rfl) dX8_learner_12 (fun r_4 M_3 H locs h hw => ?_)
    obtain ⟨ht_, hf_⟩ := h
    refine lv_if_ne (tgt := 20) X.1 X.2.1 dX8_learner_15 (by decide) (fun c_ => ?_) (fun c_ => ?_)
    · have h := ht_ c_
      refine lv_iload_n X.1 X.2.1 dX8_learner_20 rfl (lv_at hl 3 rfl) ?_
      refine r_Si (As := [.int a3]) (rest := []) X cN_ok (kX8_isDay h) (va_cwS 1 X.2.2.2.2 gX8_learner_X8_isDay rfl rfl rfl (by decide +kernel) ⟨Nat.le_of_ble_eq_true rfl, Nat.le_of_ble_eq_true rfl⟩) hw rfl hl.1 rfl (Nat.le_of_ble_eq_true rfl) dX8_learner_21 (fun r_6 M_5 H locs h hw => ?_)
      obtain ⟨ht_, hf_⟩ := h
      refine lv_if_eq (tgt := 49) X.1 X.2.1 dX8_learner_24 (by decide) (fun c_ => ?_) (fun c_ => ?_)
      · have h := ht_ c_
        refine lv_iconst (v := (-1 : Int32)) X.1 X.2.1 dX8_learner_49 (by decide) ?_
        exact r_xret X hr hlk hw rfl h (Nat.zero_le _) (Nat.zero_le _) dX8_learner_50
      · have h := hf_ c_
        refine lv_iload X.1 X.2.1 dX8_learner_27 (lv_at hl 4 rfl) ?_
        refine r_Si (As := [.int a4]) (rest := []) X cN_ok (kX8_isDay h) (va_cwS 1 X.2.2.2.2 gX8_learner_X8_isDay rfl rfl rfl (by decide +kernel) ⟨Nat.le_of_ble_eq_true rfl, Nat.le_of_ble_eq_true rfl⟩) hw rfl hl.1 rfl (Nat.le_of_ble_eq_true rfl) dX8_learner_29 (fun r_8 M_7 H locs h hw => ?_)
        obtain ⟨ht_, hf_⟩ := h
        refine lv_if_eq (tgt := 49) X.1 X.2.1 dX8_learner_32 (by decide) (fun c_ => ?_) (fun c_ => ?_)
        · have h := ht_ c_
          refine lv_iconst (v := (-1 : Int32)) X.1 X.2.1 dX8_learner_49 (by decide) ?_
          exact r_xret X hr hlk hw rfl h (Nat.zero_le _) (Nat.zero_le _) dX8_learner_50
        · have h := hf_ c_
          refine lv_iload X.1 X.2.1 dX8_learner_35 (lv_at hl 5 rfl) ?_
          refine r_Si (As := [.int a5]) (rest := []) X cN_ok (kX8_isDay h) (va_cwS 1 X.2.2.2.2 gX8_learner_X8_isDay rfl rfl rfl (by decide +kernel) ⟨Nat.le_of_ble_eq_true rfl, Nat.le_of_ble_eq_true rfl⟩) hw rfl hl.1 rfl (Nat.le_of_ble_eq_true rfl) dX8_learner_37 (fun r_10 M_9 H locs h hw => ?_)
          obtain ⟨ht_, hf_⟩ := h
          refine lv_if_eq (tgt := 49) X.1 X.2.1 dX8_learner_40 (by decide) (fun c_ => ?_) (fun c_ => ?_)
          · have h := ht_ c_
            refine lv_iconst (v := (-1 : Int32)) X.1 X.2.1 dX8_learner_49 (by decide) ?_
            exact r_xret X hr hlk hw rfl h (Nat.zero_le _) (Nat.zero_le _) dX8_learner_50
          · have h := hf_ c_
            refine lv_iload_n X.1 X.2.1 dX8_learner_43 rfl (lv_at hl 3 rfl) ?_
            refine lv_iload X.1 X.2.1 dX8_learner_44 (lv_at hl 4 rfl) ?_
            obtain ⟨ht_, hf_⟩ := h
            refine lv_icmp_le (tgt := 51) X.1 X.2.1 dX8_learner_46 (by decide) (fun c_ => ?_) (fun c_ => ?_)
            · have h := ht_ c_
              refine lv_aload_n X.1 X.2.1 dX8_learner_51 rfl (lv_at hl 0 rfl) ?_
              refine r_gf X inX8_learner_X8 hw 0 rfl rfl 9 (by decide) (X.2.2.2.2 (.fieldLink RX8 64 "TestHall" "learnerCount" "I") (by decide +kernel)) rfl rfl dX8_learner_52 ?_
              refine lv_bipush (v := (60 : Int32)) X.1 X.2.1 dX8_learner_55 (by decide) ?_
              obtain ⟨ht_, hf_⟩ := h
              refine lv_icmp_lt (tgt := 62) X.1 X.2.1 dX8_learner_57 (by decide) (fun c_ => ?_) (fun c_ => ?_)
              · have h := ht_ c_
                exact learner_tail X hr hlk hw (lv_sub hl [0, 1, 2, 3, 4, 5, 6] rfl) h
              · have h := hf_ c_
                refine lv_iconst (v := (-1 : Int32)) X.1 X.2.1 dX8_learner_60 (by decide) ?_
                exact r_xret X hr hlk hw rfl h (Nat.zero_le _) (Nat.zero_le _) dX8_learner_61
            · have h := hf_ c_
              refine lv_iconst (v := (-1 : Int32)) X.1 X.2.1 dX8_learner_49 (by decide) ?_
              exact r_xret X hr hlk hw rfl h (Nat.zero_le _) (Nat.zero_le _) dX8_learner_50
    · have h := hf_ c_
      refine lv_iconst (v := (-1 : Int32)) X.1 X.2.1 dX8_learner_18 (by decide) ?_
      exact r_xret X hr hlk hw rfl h (Nat.zero_le _) (Nat.zero_le _) dX8_learner_19
