section LL
variable {p : Program} {l : Launch} {e : Env} {s : State} {m : MethodId} {args : Array Value} {below : List Frame} {meth : Method} {c : Code} {QQ : State → Prop} 
variable {D : va_G} {κ : Nat → ClassId} {ηm : Nat → Nat} {σ : (Nat → Nat) × (Nat → Nat)} {o b L : Nat} {A : Nat → Prop} {xs : Nat → Int32}
set_option maxHeartbeats 4000000 in
set_option maxRecDepth 100000 in
theorem law_loop {c0 s0 qx : Nat} (hst : l.stackTraces = false) (X : CallFix p m c cL_law 7 s args wsL_lawN RL) (hX : va_X b L xs s s.heap) (hbl : b < s.heap.size) (hbA : ¬ A b) (hL : L ≤ 3584) (hc0 : c0 + 1000 ≤ room_1.cells) (hs0 : s0 + 12000 ≤ room_1.slots)
    (hend : ∀ (H : Heap) (locs : List Loc) (ls : Array Slot) (cells slots : Nat), cells ≤ room_1.cells → slots ≤ room_1.slots → (∀ q ∈ locs, A q.base) → W p l e room_1 s m args below meth c H locs cells slots QQ (F0 m 1114 ls [])) :
    ∀ (d i j n : Nat) (C R : Sg) (η : Nat → Nat) (f : Nat → Int64) (H : Heap) (locs : List Loc) (ls : Array Slot), i + d = 900 → j ≤ i → 7 * i ≤ L + 6 → Rel j n C R → η 0 = qx → Wd (cX σ) D (Ky κ) A s ((oE κ o f ++ mw κ ηm R) ++ cw κ η n C) H locs → lv_has ls 7 [(0, .ref b), (1, .ref qx), (2, .ref (ηm 0)), (3, .ref o), (4, .int (nI (7 * i)))] → W p l e room_1 s m args below meth c H locs (c0 + i) (s0 + 12 * i) QQ (F0 m 23 ls []) := by
  intro d
  induction d with
  | zero => intro i j n C R η f H locs ls h1 h2 h3; exfalso; omega
  | succ d ih =>
    intro i j n C R η f H locs ls hd hj h7 h hη hw hl
    have hi0 : i < 900 := by omega
    have hl : lv_has ls 7 [(0, .ref b), (1, .ref (η 0)), (2, .ref (ηm 0)), (3, .ref o), (4, .int (nI (7 * i)))] := by rw [hη]; exact hl
    refine lv_iload X.1 X.2.1 dL_law_23 (lv_at hl 4 rfl) ?_
    refine lv_aload_n X.1 X.2.1 dL_law_25 rfl (lv_at hl 0 rfl) ?_
    refine va_slen X.1 X.2.1 hX hbl hbA hw.2.2.1 dL_law_26 ?_
    refine lv_bipush (v := (7 : Int32)) X.1 X.2.1 dL_law_27 (by decide) ?_
    refine lv_isub X.1 X.2.1 dL_law_29 ?_
    refine lv_icmp_gt (tgt := 1114) X.1 X.2.1 dL_law_30 (by decide) (fun _ => ?_) (fun c_ => ?_)
    · exact hend H locs ls _ _ (by omega) (by omega) hw.2.2.1.2.2
    · have hlt : 7 * i + 7 ≤ L := z_sub7 hL (by omega) c_
      have next : ∀ (j n : Nat) (C R : Sg) (η : Nat → Nat) (f : Nat → Int64) (H : Heap) (locs : List Loc) (ls : Array Slot), j ≤ i + 1 → Rel j n C R → η 0 = qx → Wd (cX σ) D (Ky κ) A s ((oE κ o f ++ mw κ ηm R) ++ cw κ η n C) H locs → lv_has ls 7 [(0, .ref b), (1, .ref (η 0)), (2, .ref (ηm 0)), (3, .ref o), (4, .int (nI (7 * i)))] → W p l e room_1 s m args below meth c H locs (c0 + i + 1) (s0 + 12 * i + 12) QQ (F0 m 1108 ls []) := by
        intro j n C R η f H locs ls hj h hη hw hl
        refine lv_iinc (v := nI (7 * (i + 1))) (lv' := [(4, .int (nI (7 * (i + 1)))), (0, .ref b), (1, .ref (η 0)), (2, .ref (ηm 0)), (3, .ref o)]) X.1 X.2.1 dL_law_1108 hl (k := 4) rfl (by rw [show Int32.ofInt 7 = nI 7 from rfl, nI_add, Nat.mul_add]) (by decide) rfl (fun ls hl => ?_)
        refine lv_goto (tgt := 23) X.1 X.2.1 dL_law_1111 (by decide) ?_
        have hl := lv_sub hl [1, 2, 3, 4, 0] rfl
        rw [hη] at hl
        exact ih (i + 1) j n C R η f H locs ls (by omega) hj (by omega) h hη hw hl
      have next : ∀ (j n1 : Nat) (C1 R1 : Sg) (η1 : Nat → Nat) (f : Nat → Int64) (H : Heap) (locs : List Loc) (ls : Array Slot), j ≤ i + 1 → Rel j n1 C1 R1 → η1 0 = qx → Wd (cX σ) D (Ky κ) A s ((oE κ o f ++ mw κ ηm R1) ++ cw κ η1 n1 C1) H locs → lv_has ls 7 [(0, .ref b), (1, .ref (η 0)), (2, .ref (ηm 0)), (3, .ref o), (4, .int (nI (7 * i)))] → W p l e room_1 s m args below meth c H locs (c0 + i + 1) (s0 + 12 * i + 12) QQ (F0 m 1108 ls []) :=
        fun j n1 C1 R1 η1 f H locs ls hj h hη1 hw hl => next j n1 C1 R1 η1 f H locs ls hj h hη1 hw (by rw [hη1, ← hη]; exact hl)
      have hc1 : c0 + i + 1 ≤ room_1.cells := by omega
      have hs1 : s0 + 12 * i + 12 ≤ room_1.slots := by omega
      have hi1 : vp_in (nI (7 * i) + 1) L := by rw [show (1 : Int32) = nI 1 from rfl, nI_add]; exact vp_in_nI (by omega) (by omega)
      have hi2 : vp_in (nI (7 * i) + 2) L := by rw [show (2 : Int32) = nI 2 from rfl, nI_add]; exact vp_in_nI (by omega) (by omega)
      have hi3 : vp_in (nI (7 * i) + 3) L := by rw [show (3 : Int32) = nI 3 from rfl, nI_add]; exact vp_in_nI (by omega) (by omega)
      have hi4 : vp_in (nI (7 * i) + 4) L := by rw [show (4 : Int32) = nI 4 from rfl, nI_add]; exact vp_in_nI (by omega) (by omega)
      have hi5 : vp_in (nI (7 * i) + 5) L := by rw [show (5 : Int32) = nI 5 from rfl, nI_add]; exact vp_in_nI (by omega) (by omega)
      have hi6 : vp_in (nI (7 * i) + 6) L := by rw [show (6 : Int32) = nI 6 from rfl, nI_add]; exact vp_in_nI (by omega) (by omega)
      refine lv_aload_n X.1 X.2.1 dL_law_33 rfl (lv_at hl 0 rfl) ?_
      refine lv_iload X.1 X.2.1 dL_law_34 (lv_at hl 4 rfl) ?_
      refine va_sld X.1 X.2.1 hX hbl hbA hw.2.2.1 (vp_in_nI (by omega) (by omega)) dL_law_36 ?_
      refine lv_bipush (v := (31 : Int32)) X.1 X.2.1 dL_law_37 (by decide) ?_
      refine lv_iand X.1 X.2.1 dL_law_39 ?_
      generalize (xs (nI (7 * i)).toNatClampNeg &&& (31 : Int32)) = x
      by_cases g1 : x < 0
      · refine lv_tableOut (tgt := 1108) X.1 X.2.1 dL_law_40 (Or.inl (Int32.lt_iff_toInt_lt.mp g1)) (by decide) ?_
        refine W.widen (k := c0 + i + 1) (n := s0 + 12 * i + 12) (by omega) (by omega) ?_
        exact next j n C R η f H locs ls (by omega) h hη hw hl
      by_cases g2 : (20 : Int32) < x
      · refine lv_tableOut (tgt := 1108) X.1 X.2.1 dL_law_40 (Or.inr (Int32.lt_iff_toInt_lt.mp g2)) (by decide) ?_
        refine W.widen (k := c0 + i + 1) (n := s0 + 12 * i + 12) (by omega) (by omega) ?_
        exact next j n C R η f H locs ls (by omega) h hη hw hl
      obtain ⟨t, ht, et⟩ := nI_of2 (M := 20) (n := 20) rfl g1 (Int32.not_lt.mp g2)
      rcases t with _ | _ | _ | _ | _ | _ | _ | _ | _ | _ | _ | _ | _ | _ | _ | _ | _ | _ | _ | _ | _ | t
      all_goals (try (exfalso; omega))
      all_goals (rw [et])
      · refine lv_tableIn (off := 100) (tgt := 140) X.1 X.2.1 dL_law_40 (by decide) (by decide) (by rfl) (by decide) ?_
        exact bL_examiner X hX hbl hbA  h hw hl hc1 hs1 (fun n1 C1 R1 η1 f1 H1 locs1 ls1 h1 e1 hw1 hl1 => next (j + 1) n1 C1 R1 η1 f1 H1 locs1 ls1 (by omega) h1 (e1.trans hη) hw1 hl1)
      · refine lv_tableIn (off := 113) (tgt := 153) X.1 X.2.1 dL_law_40 (by decide) (by decide) (by rfl) (by decide) ?_
        exact bL_place X hX hbl hbA hi1 hi2 hi3 hi4 h hw hl hc1 hs1 (fun n1 C1 R1 η1 f1 H1 locs1 ls1 h1 e1 hw1 hl1 => next (j + 1) n1 C1 R1 η1 f1 H1 locs1 ls1 (by omega) h1 (e1.trans hη) hw1 hl1)
      · refine lv_tableIn (off := 174) (tgt := 214) X.1 X.2.1 dL_law_40 (by decide) (by decide) (by rfl) (by decide) ?_
        exact bL_learner X hX hbl hbA hi1 hi2 hi3 hi4 hi5 hi6 h hw hl hc1 hs1 (fun n1 C1 R1 η1 f1 H1 locs1 ls1 h1 e1 hw1 hl1 => next (j + 1) n1 C1 R1 η1 f1 H1 locs1 ls1 (by omega) h1 (e1.trans hη) hw1 hl1)
      · refine lv_tableIn (off := 277) (tgt := 317) X.1 X.2.1 dL_law_40 (by decide) (by decide) (by rfl) (by decide) ?_
        exact bL_feed X hX hbl hbA hi1 hi2 hi3 hi4 hi5 hi6 h hw hl hc1 hs1 (fun n1 C1 R1 η1 f1 H1 locs1 ls1 h1 e1 hw1 hl1 => next (j + 1) n1 C1 R1 η1 f1 H1 locs1 ls1 (by omega) h1 (e1.trans hη) hw1 hl1)
      · refine lv_tableIn (off := 424) (tgt := 464) X.1 X.2.1 dL_law_40 (by decide) (by decide) (by rfl) (by decide) ?_
        exact bL_text X hX hbl hbA  h hw hl hc1 hs1 (fun n1 C1 R1 η1 f1 H1 locs1 ls1 h1 e1 hw1 hl1 => next (j + 1) n1 C1 R1 η1 f1 H1 locs1 ls1 (by omega) h1 (e1.trans hη) hw1 hl1)
      · refine lv_tableIn (off := 437) (tgt := 477) X.1 X.2.1 dL_law_40 (by decide) (by decide) (by rfl) (by decide) ?_
        exact bL_deal X hX hbl hbA  h hw hl hc1 hs1 (fun n1 C1 R1 η1 f1 H1 locs1 ls1 h1 e1 hw1 hl1 => next (j + 1) n1 C1 R1 η1 f1 H1 locs1 ls1 (by omega) h1 (e1.trans hη) hw1 hl1)
      · refine lv_tableIn (off := 450) (tgt := 490) X.1 X.2.1 dL_law_40 (by decide) (by decide) (by rfl) (by decide) ?_
        exact bL_cancel X hX hbl hbA hi1 h hw hl hc1 hs1 (fun n1 C1 R1 η1 f1 H1 locs1 ls1 h1 e1 hw1 hl1 => next (j + 1) n1 C1 R1 η1 f1 H1 locs1 ls1 (by omega) h1 (e1.trans hη) hw1 hl1)
      · refine lv_tableIn (off := 475) (tgt := 515) X.1 X.2.1 dL_law_40 (by decide) (by decide) (by rfl) (by decide) ?_
        exact bL_leave X hX hbl hbA hi1 h hw hl hc1 hs1 (fun n1 C1 R1 η1 f1 H1 locs1 ls1 h1 e1 hw1 hl1 => next (j + 1) n1 C1 R1 η1 f1 H1 locs1 ls1 (by omega) h1 (e1.trans hη) hw1 hl1)
      · refine lv_tableIn (off := 500) (tgt := 540) X.1 X.2.1 dL_law_40 (by decide) (by decide) (by rfl) (by decide) ?_
        exact bL_shut X hX hbl hbA hi1 h hw hl hc1 hs1 (fun n1 C1 R1 η1 f1 H1 locs1 ls1 h1 e1 hw1 hl1 => next (j + 1) n1 C1 R1 η1 f1 H1 locs1 ls1 (by omega) h1 (e1.trans hη) hw1 hl1)
      · refine lv_tableIn (off := 525) (tgt := 565) X.1 X.2.1 dL_law_40 (by decide) (by decide) (by rfl) (by decide) ?_
        exact bL_days X hX hbl hbA hi1 h hw hl hc1 hs1 (fun n1 C1 R1 η1 f1 H1 locs1 ls1 h1 e1 hw1 hl1 => next (j + 1) n1 C1 R1 η1 f1 H1 locs1 ls1 (by omega) h1 (e1.trans hη) hw1 hl1)
      · refine lv_tableIn (off := 550) (tgt := 590) X.1 X.2.1 dL_law_40 (by decide) (by decide) (by rfl) (by decide) ?_
        exact bL_held X hX hbl hbA hi1 hi2 h hw hl hc1 hs1 (fun n1 C1 R1 η1 f1 H1 locs1 ls1 h1 e1 hw1 hl1 => next (j + 1) n1 C1 R1 η1 f1 H1 locs1 ls1 (by omega) h1 (e1.trans hη) hw1 hl1)
      · refine lv_tableIn (off := 603) (tgt := 643) X.1 X.2.1 dL_law_40 (by decide) (by decide) (by rfl) (by decide) ?_
        exact bL_look hst X hX hbl hbA hi1 hi2 h hw hl hc1 hs1 (fun n1 C1 R1 η1 f1 H1 locs1 ls1 h1 e1 hw1 hl1 => next (j + 1) n1 C1 R1 η1 f1 H1 locs1 ls1 (by omega) h1 (e1.trans hη) hw1 hl1)
      · refine lv_tableIn (off := 671) (tgt := 711) X.1 X.2.1 dL_law_40 (by decide) (by decide) (by rfl) (by decide) ?_
        exact bL_at X hX hbl hbA hi1 hi2 hi3 h hw hl hc1 hs1 (fun n1 C1 R1 η1 f1 H1 locs1 ls1 h1 e1 hw1 hl1 => next (j + 1) n1 C1 R1 η1 f1 H1 locs1 ls1 (by omega) h1 (e1.trans hη) hw1 hl1)
      · refine lv_tableIn (off := 720) (tgt := 760) X.1 X.2.1 dL_law_40 (by decide) (by decide) (by rfl) (by decide) ?_
        exact bL_street X hX hbl hbA hi1 hi2 hi3 hi4 h hw hl hc1 hs1 (fun n1 C1 R1 η1 f1 H1 locs1 ls1 h1 e1 hw1 hl1 => next (j + 1) n1 C1 R1 η1 f1 H1 locs1 ls1 (by omega) h1 (e1.trans hη) hw1 hl1)
      · refine lv_tableIn (off := 781) (tgt := 821) X.1 X.2.1 dL_law_40 (by decide) (by decide) (by rfl) (by decide) ?_
        exact bL_close X hX hbl hbA hi1 hi2 h hw hl hc1 hs1 (fun n1 C1 R1 η1 f1 H1 locs1 ls1 h1 e1 hw1 hl1 => next (j + 1) n1 C1 R1 η1 f1 H1 locs1 ls1 (by omega) h1 (e1.trans hη) hw1 hl1)
      · refine lv_tableIn (off := 834) (tgt := 874) X.1 X.2.1 dL_law_40 (by decide) (by decide) (by rfl) (by decide) ?_
        exact bL_routes X hX hbl hbA hi1 hi2 hi3 h hw hl hc1 hs1 (fun n1 C1 R1 η1 f1 H1 locs1 ls1 h1 e1 hw1 hl1 => next (j + 1) n1 C1 R1 η1 f1 H1 locs1 ls1 (by omega) h1 (e1.trans hη) hw1 hl1)
      · refine lv_tableIn (off := 883) (tgt := 923) X.1 X.2.1 dL_law_40 (by decide) (by decide) (by rfl) (by decide) ?_
        exact bL_route X hX hbl hbA hi1 hi2 hi3 hi4 h hw hl hc1 hs1 (fun n1 C1 R1 η1 f1 H1 locs1 ls1 h1 e1 hw1 hl1 => next (j + 1) n1 C1 R1 η1 f1 H1 locs1 ls1 (by omega) h1 (e1.trans hη) hw1 hl1)
      · refine lv_tableIn (off := 944) (tgt := 984) X.1 X.2.1 dL_law_40 (by decide) (by decide) (by rfl) (by decide) ?_
        exact bL_part X hX hbl hbA hi1 h hw hl hc1 hs1 (fun n1 C1 R1 η1 f1 H1 locs1 ls1 h1 e1 hw1 hl1 => next (j + 1) n1 C1 R1 η1 f1 H1 locs1 ls1 (by omega) h1 (e1.trans hη) hw1 hl1)
      · refine lv_tableIn (off := 969) (tgt := 1009) X.1 X.2.1 dL_law_40 (by decide) (by decide) (by rfl) (by decide) ?_
        exact bL_differs X hX hbl hbA hi1 hi2 h (by omega) hw hl hc1 hs1 (fun n1 C1 R1 η1 f1 H1 locs1 ls1 h1 e1 hw1 hl1 => next (j + 1) n1 C1 R1 η1 f1 H1 locs1 ls1 (by omega) h1 (e1.trans hη) hw1 hl1)
      · refine lv_tableIn (off := 1006) (tgt := 1046) X.1 X.2.1 dL_law_40 (by decide) (by decide) (by rfl) (by decide) ?_
        exact bL_count X hX hbl hbA hi1 h hw hl hc1 hs1 (fun n1 C1 R1 η1 f1 H1 locs1 ls1 h1 e1 hw1 hl1 => next (j + 1) n1 C1 R1 η1 f1 H1 locs1 ls1 (by omega) h1 (e1.trans hη) hw1 hl1)
      · refine lv_tableIn (off := 1031) (tgt := 1071) X.1 X.2.1 dL_law_40 (by decide) (by decide) (by rfl) (by decide) ?_
        exact bL_load X hX hbl hbA hi1 hi2 h hw hl hc1 hs1 (fun n1 C1 R1 η1 f1 H1 locs1 ls1 h1 e1 hw1 hl1 => next (j + 1) n1 C1 R1 η1 f1 H1 locs1 ls1 (by omega) h1 (e1.trans hη) hw1 hl1)
end LL
