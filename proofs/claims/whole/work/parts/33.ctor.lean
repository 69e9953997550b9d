theorem va_AOA.moved {ty : FieldType} {u U : State} (hvm : u.vm.Alike U.vm) (h : va_AOA ty u) : va_AOA ty U := by
  have h1 : (Cond.arrayOver (.array ty)).before #[] (u.setVm U.vm) = true := by rw [Cond.arrayOver_setVmC hvm]; exact h
  show (Cond.arrayOver (.array ty)).before #[] U = true
  simp only [Cond.before, Cond.holds, Cond.value, State.vm_setVm] at h1 ⊢
  exact h1
def cM (σ : (Nat → Nat) × (Nat → Nat)) (A : Nat → Prop) (U : State) : Prop := cN σ A U ∧ va_AO "TestHall$Learner" U ∧ va_AOA .int U
theorem cM_ok {σ : (Nat → Nat) × (Nat → Nat)} : NP (cM σ) := by
  refine ⟨fun A B s U hW hq hAB h => ⟨cN_ok.1 A B s U hW hq hAB h.1, h.2.1.moved hW.alike, h.2.2.moved hW.alike⟩, fun A u U e1 e2 h => ⟨cN_ok.2 A u U e1 e2 h.1, ?_, ?_⟩⟩
  · exact h.2.1.moved (by rw [e1]; exact Vm.Alike.refl _)
  · exact h.2.2.moved (by rw [e1]; exact Vm.Alike.refl _)
section Mna
variable {p : Program} {l : Launch} {e : Env} {R : Room} {s : State} {m : MethodId} {args : Array Value} {below : List Frame} {meth : Method} {c : Code} {H : Heap} {locs : List Loc} {QQ : State → Prop} {cells slots : Nat}
variable {cc : ByteArray} {pc nL : Nat} {ls : Array Slot} {rest : List Value} {N : (Nat → Prop) → State → Prop} {D : va_G} {A : Nat → Prop} {κ : Nat → ClassId} {w : va_W} {Ts : List Cond} {own : String}
def mrow (κ : Nat → ClassId) (r : Nat → Nat) : va_W := (List.range 12).map (fun i => (r i, .inl (κ 0, 4, .inl (fun _ => 0))))
theorem r_mna {index : Nat} (X : CallFix p m c cc nL s args Ts own) (hw : Wd N D (Ky κ) A s w H locs) (hclink : (Cond.classLink own index ("[" ++ (FieldType.array .int).toString)).before args s = true) (hover : va_AOA .int s) (harr : (Cond.arrayClass .int).before args s = true) (hcells : cells + 13 ≤ R.cells) (hslots : slots + 60 ≤ R.slots) (hdg : decode cc pc = .ok (.multianewarray index 2, 4))
    (kk : ∀ (q : Nat) (r : Nat → Nat) (H1 : Heap), Wd N D (Ky κ) A s ((w ++ [(q, .inl (κ 5, 12, .inr (.inr (.inr (.inr (fun i => if i < 12 then some (r i) else none))))))]) ++ mrow κ r) H1 locs → W p l e R s m args below meth c H1 locs (cells + 1 + 12) (slots + 12 + 12 * 4) QQ (F0 m (pc + 4) ls (.ref q :: rest))) : W p l e R s m args below meth c H locs cells slots QQ (F0 m pc ls (.int 4 :: .int 12 :: rest)) := by
  obtain ⟨hP, hD, hS, hK, hA, hN⟩ := hw
  have e0 : w = w ++ va_pl [] (fun _ => (Sum.inr (0, []) : va_E)) := by simp [va_pl]
  rw [e0] at hP hD
  refine va_mna (N' := 12) (K' := 4) (ty := .int) (cy := κ 0) (z := (4, .inl (fun _ => 0))) X.1 X.2.1 X.2.2.2.1 hclink hover harr (hK.2 0 _ rfl).2 hK hP hD hS hA (by decide) (by decide) (by decide) (by decide) (by decide) (by decide) (by decide) rfl rfl hcells hslots (fun cc => ?_) hdg (fun q r cA H1 hi hr hK1 hP1 hD1 hS1 => ?_)
  · show ({ cls := cc, slots := Array.replicate 4 (defaultValue .int), vm := .none } : Cell) = _
    rw [arrV_new]
    rfl
  · have e5 : cA = κ 5 := Option.some.inj ((hK1.2 6 _ rfl).2.symm.trans (hK.2 5 _ rfl).2)
    have e6 : va_pl ([] ++ (List.range 12).map r) (vr_up (fun _ => (Sum.inr (0, []) : va_E)) ((List.range 12).map r) (.inl (κ 0, (4, .inl (fun _ => 0))))) = mrow κ r := by
      unfold va_pl mrow
      rw [List.nil_append, List.map_map]
      apply List.map_congr_left
      intro i hi
      show (r i, _) = (r i, _)
      rw [vr_up_in (List.mem_map.mpr ⟨i, hi, rfl⟩)]
    rw [e5, e6] at hP1 hD1
    exact kk q r H1 ⟨hP1, hD1, hS1, hK, hA, hN⟩
theorem r_newq {index : Nat} {n : Int32} {N' : Nat} (X : CallFix p m c cc nL s args Ts own) (hw : Wd N D (Ky κ) A s w H locs) (hclink : (Cond.classLink own index "TestHall$Learner").before args s = true) (hover : va_AO "TestHall$Learner" s) (hn : ¬ n < 0) (hN : n.toNatClampNeg = N') (hbytes : N' * 4 ≤ 536870912) (hcells : cells + 1 ≤ R.cells) (hslots : slots + N' ≤ R.slots) (hdg : decode cc pc = .ok (.anewarray index, 3))
    (kk : ∀ (q : Nat) (H1 : Heap), Wd N D (Ky κ) A s (w ++ [(q, .inl (κ 4, N', .inr (.inr (.inr (.inr (fun _ => none))))))]) H1 locs → W p l e R s m args below meth c H1 locs (cells + 1) (slots + N') QQ (F0 m (pc + 3) ls (.ref q :: rest))) : W p l e R s m args below meth c H locs cells slots QQ (F0 m pc ls (.int n :: rest)) := by
  obtain ⟨hP, hD, hS, hK, hA, hN0⟩ := hw
  refine va_newq X.1 X.2.1 X.2.2.2.1 hclink hover hK hP hD hS hA hn hN hbytes hcells hslots hdg (fun q cA H1 hK1 hP1 hD1 hS1 => ?_)
  obtain ⟨kA, comp, h1, h2, h3, h4⟩ := (hK1.2 6 _ rfl).2
  obtain ⟨kB, comB, g1, g2, g3, g4⟩ := (hK.2 4 _ rfl).2
  have e : cA = κ 4 := Option.some.inj (h4.symm.trans g4)
  rw [e] at hP1 hD1
  exact kk q H1 ⟨hP1, hD1, hS1, hK, hA, hN0⟩
end Mna
theorem inX3_init_X3 : ∀ w ∈ wsX30, w ∈ wsX3_init := fun w h => List.mem_cons_of_mem _ (List.mem_append_right _ h)
abbrev rmX3_init : Room := { frames := 1, cells := 21, slots := 208, locals := 40 }
def wcX3 (κ : Nat → ClassId) (q : Nat) (u : (Nat → Nat) × (Nat → Nat)) : va_W := (((([(q, .inr (3, [.ref (u.1 1), .ref (u.1 2), .ref (u.1 3), .ref (u.1 4), .ref (u.1 5), .ref (u.1 6), .ref (u.1 7), .ref (u.1 8), .ref (u.1 9), .int 0, .int 0, .int 0, .int 0, .int 0, .int 0, .int 0, .int 0, .int 0])), (u.1 1, .inl (κ 0, 24, .inl (fun _ => 0))), (u.1 2, .inl (κ 0, 24, .inl (fun _ => 0))), (u.1 3, .inl (κ 0, 24, .inl (fun _ => 0))), (u.1 4, .inl (κ 0, 24, .inl (fun _ => 0))), (u.1 5, .inl (κ 1, 24, .inl (fun _ => 0)))] ++ [(u.1 6, .inl (κ 5, 12, .inr (.inr (.inr (.inr (fun i => if i < 12 then some (u.2 i) else none))))))]) ++ mrow κ u.2) ++ [(u.1 7, .inl (κ 0, 12, .inl (fun _ => 0)))]) ++ [(u.1 8, .inl (κ 0, 8, .inl (fun _ => 0)))]) ++ [(u.1 9, .inl (κ 0, 8, .inl (fun _ => 0)))]
set_option maxHeartbeats 8000000 in
set_option maxRecDepth 100000 in
theorem kX3_init {N : (Nat → Prop) → State → Prop} {D : va_G} {κ : Nat → ClassId} {l : Launch} {q : Nat} (hNP : NP N) (hAO : ∀ A U, N A U → va_AOA .int U) : Kc N D (Ky κ) l yX3_init wsX3_init rmX3_init [.ref q] [(q, .inr (3, [.null, .null, .null, .null, .null, .null, .null, .null, .null, .int 0, .int 0, .int 0, .int 0, .int 0, .int 0, .int 0, .int 0, .int 0]))] (wcX3 κ q) (fun _ => True) 21 208 := by
  refine ofW_c (cc := cX3_init) (maxL := 1) (by decide) rfl (Nat.le_of_ble_eq_true rfl) ?_
  intro p e s m args below meth c A ls X hr hlk hmn hw hl
  have hl : lv_has ls 1 [(0, .ref q)] := hl
  refine lv_aload_n X.1 X.2.1 dX3_init_0 rfl (lv_at hl 0 rfl) ?_
  refine r_oinit X hl.1 (X.2.2.2.2 _ (by decide +kernel)) (X.2.2.2.2 _ (by decide +kernel)) (X.2.2.2.2 _ (by decide +kernel)) (Nat.le_of_ble_eq_true rfl) (Nat.le_of_ble_eq_true rfl) dX3_init_1 ?_
  refine lv_aload_n X.1 X.2.1 dX3_init_4 rfl (lv_at hl 0 rfl) ?_
  refine lv_bipush (v := (24 : Int32)) X.1 X.2.1 dX3_init_5 (by decide) ?_
  refine r_newa (a0 := (24, .inl (fun _ => 0))) X hw 0 rfl rfl (fun _ h => by cases h) (X.2.2.2.2 _ (by decide +kernel)) (fun _ => rfl) (by decide) (by decide) (by decide) (Nat.le_of_ble_eq_true rfl) (Nat.le_of_ble_eq_true rfl) dX3_init_7 (fun q1 H hw => ?_)
  refine r_pfF (ty := (.array .int)) X inX3_init_X3 tyX3_ok nmX3 hmn hw 0 rfl rfl 0 (by decide) (X.2.2.2.2 (.fieldLink RX3 11 "TestHall$Streets" "ends" "[I") (by decide +kernel)) rfl rfl rfl (by decide +kernel) rfl rfl (Nat.le_of_ble_eq_true rfl) dX3_init_9 (fun H locs hw => ?_)
  refine lv_aload_n X.1 X.2.1 dX3_init_12 rfl (lv_at hl 0 rfl) ?_
  refine lv_bipush (v := (24 : Int32)) X.1 X.2.1 dX3_init_13 (by decide) ?_
  refine r_newa (a0 := (24, .inl (fun _ => 0))) X hw 0 rfl rfl (fun _ h => by cases h) (X.2.2.2.2 _ (by decide +kernel)) (fun _ => rfl) (by decide) (by decide) (by decide) (Nat.le_of_ble_eq_true rfl) (Nat.le_of_ble_eq_true rfl) dX3_init_15 (fun q2 H hw => ?_)
  refine r_pfF (ty := (.array .int)) X inX3_init_X3 tyX3_ok nmX3 hmn hw 0 rfl rfl 1 (by decide) (X.2.2.2.2 (.fieldLink RX3 15 "TestHall$Streets" "otherEnds" "[I") (by decide +kernel)) rfl rfl rfl (by decide +kernel) rfl rfl (Nat.le_of_ble_eq_true rfl) dX3_init_17 (fun H locs hw => ?_)
  refine lv_aload_n X.1 X.2.1 dX3_init_20 rfl (lv_at hl 0 rfl) ?_
  refine lv_bipush (v := (24 : Int32)) X.1 X.2.1 dX3_init_21 (by decide) ?_
  refine r_newa (a0 := (24, .inl (fun _ => 0))) X hw 0 rfl rfl (fun _ h => by cases h) (X.2.2.2.2 _ (by decide +kernel)) (fun _ => rfl) (by decide) (by decide) (by decide) (Nat.le_of_ble_eq_true rfl) (Nat.le_of_ble_eq_true rfl) dX3_init_23 (fun q3 H hw => ?_)
  refine r_pfF (ty := (.array .int)) X inX3_init_X3 tyX3_ok nmX3 hmn hw 0 rfl rfl 2 (by decide) (X.2.2.2.2 (.fieldLink RX3 18 "TestHall$Streets" "minutesOf" "[I") (by decide +kernel)) rfl rfl rfl (by decide +kernel) rfl rfl (Nat.le_of_ble_eq_true rfl) dX3_init_25 (fun H locs hw => ?_)
  refine lv_aload_n X.1 X.2.1 dX3_init_28 rfl (lv_at hl 0 rfl) ?_
  refine lv_bipush (v := (24 : Int32)) X.1 X.2.1 dX3_init_29 (by decide) ?_
  refine r_newa (a0 := (24, .inl (fun _ => 0))) X hw 0 rfl rfl (fun _ h => by cases h) (X.2.2.2.2 _ (by decide +kernel)) (fun _ => rfl) (by decide) (by decide) (by decide) (Nat.le_of_ble_eq_true rfl) (Nat.le_of_ble_eq_true rfl) dX3_init_31 (fun q4 H hw => ?_)
  refine r_pfF (ty := (.array .int)) X inX3_init_X3 tyX3_ok nmX3 hmn hw 0 rfl rfl 3 (by decide) (X.2.2.2.2 (.fieldLink RX3 21 "TestHall$Streets" "marksOf" "[I") (by decide +kernel)) rfl rfl rfl (by decide +kernel) rfl rfl (Nat.le_of_ble_eq_true rfl) dX3_init_33 (fun H locs hw => ?_)
  refine lv_aload_n X.1 X.2.1 dX3_init_36 rfl (lv_at hl 0 rfl) ?_
  refine lv_bipush (v := (24 : Int32)) X.1 X.2.1 dX3_init_37 (by decide) ?_
  refine r_newa (a0 := (24, .inl (fun _ => 0))) X hw 1 rfl rfl (fun _ h => by cases h) (X.2.2.2.2 _ (by decide +kernel)) (fun _ => rfl) (by decide) (by decide) (by decide) (Nat.le_of_ble_eq_true rfl) (Nat.le_of_ble_eq_true rfl) dX3_init_39 (fun q5 H hw => ?_)
  refine r_pfF (ty := (.array .boolean)) X inX3_init_X3 tyX3_ok nmX3 hmn hw 0 rfl rfl 4 (by decide) (X.2.2.2.2 (.fieldLink RX3 24 "TestHall$Streets" "closed" "[Z") (by decide +kernel)) rfl rfl rfl (by decide +kernel) rfl rfl (Nat.le_of_ble_eq_true rfl) dX3_init_41 (fun H locs hw => ?_)
  refine lv_aload_n X.1 X.2.1 dX3_init_44 rfl (lv_at hl 0 rfl) ?_
  refine lv_bipush (v := (12 : Int32)) X.1 X.2.1 dX3_init_45 (by decide) ?_
  refine lv_iconst (v := (4 : Int32)) X.1 X.2.1 dX3_init_47 (by decide) ?_
  refine r_mna X hw (X.2.2.2.2 _ (by decide +kernel)) (hAO A s hw.2.2.2.2.2) (X.2.2.2.2 _ (by decide +kernel)) (Nat.le_of_ble_eq_true rfl) (Nat.le_of_ble_eq_true rfl) dX3_init_48 (fun q6 r H hw => ?_)
  refine r_pfF (ty := (.array (.array .int))) X inX3_init_X3 tyX3_ok nmX3 hmn hw 0 rfl rfl 5 (by decide) (X.2.2.2.2 (.fieldLink RX3 30 "TestHall$Streets" "streetsAt" "[[I") (by decide +kernel)) rfl rfl rfl (by decide +kernel) rfl rfl (Nat.le_of_ble_eq_true rfl) dX3_init_52 (fun H locs hw => ?_)
  refine lv_aload_n X.1 X.2.1 dX3_init_55 rfl (lv_at hl 0 rfl) ?_
  refine lv_bipush (v := (12 : Int32)) X.1 X.2.1 dX3_init_56 (by decide) ?_
  refine r_newa (a0 := (12, .inl (fun _ => 0))) X hw 0 rfl rfl (fun _ h => by cases h) (X.2.2.2.2 _ (by decide +kernel)) (fun _ => rfl) (by decide) (by decide) (by decide) (Nat.le_of_ble_eq_true rfl) (Nat.le_of_ble_eq_true rfl) dX3_init_58 (fun q7 H hw => ?_)
  refine r_pfF (ty := (.array .int)) X inX3_init_X3 tyX3_ok nmX3 hmn hw 0 rfl rfl 6 (by decide) (X.2.2.2.2 (.fieldLink RX3 33 "TestHall$Streets" "sizeAt" "[I") (by decide +kernel)) rfl rfl rfl (by decide +kernel) rfl rfl (Nat.le_of_ble_eq_true rfl) dX3_init_60 (fun H locs hw => ?_)
  refine lv_aload_n X.1 X.2.1 dX3_init_63 rfl (lv_at hl 0 rfl) ?_
  refine lv_bipush (v := (8 : Int32)) X.1 X.2.1 dX3_init_64 (by decide) ?_
  refine r_newa (a0 := (8, .inl (fun _ => 0))) X hw 0 rfl rfl (fun _ h => by cases h) (X.2.2.2.2 _ (by decide +kernel)) (fun _ => rfl) (by decide) (by decide) (by decide) (Nat.le_of_ble_eq_true rfl) (Nat.le_of_ble_eq_true rfl) dX3_init_66 (fun q8 H hw => ?_)
  refine r_pfF (ty := (.array .int)) X inX3_init_X3 tyX3_ok nmX3 hmn hw 0 rfl rfl 7 (by decide) (X.2.2.2.2 (.fieldLink RX3 36 "TestHall$Streets" "path" "[I") (by decide +kernel)) rfl rfl rfl (by decide +kernel) rfl rfl (Nat.le_of_ble_eq_true rfl) dX3_init_68 (fun H locs hw => ?_)
  refine lv_aload_n X.1 X.2.1 dX3_init_71 rfl (lv_at hl 0 rfl) ?_
  refine lv_bipush (v := (8 : Int32)) X.1 X.2.1 dX3_init_72 (by decide) ?_
  refine r_newa (a0 := (8, .inl (fun _ => 0))) X hw 0 rfl rfl (fun _ h => by cases h) (X.2.2.2.2 _ (by decide +kernel)) (fun _ => rfl) (by decide) (by decide) (by decide) (Nat.le_of_ble_eq_true rfl) (Nat.le_of_ble_eq_true rfl) dX3_init_74 (fun q9 H hw => ?_)
  refine r_pfF (ty := (.array .int)) X inX3_init_X3 tyX3_ok nmX3 hmn hw 0 rfl rfl 8 (by decide) (X.2.2.2.2 (.fieldLink RX3 39 "TestHall$Streets" "drawn" "[I") (by decide +kernel)) rfl rfl rfl (by decide +kernel) rfl rfl (Nat.le_of_ble_eq_true rfl) dX3_init_76 (fun H locs hw => ?_)
  exact r_cret (fun k => [0, q1, q2, q3, q4, q5, q6, q7, q8, q9].getD k 0, r) X hr hlk hw trivial dX3_init_79
theorem inX1_init_X1 : ∀ w ∈ wsX10, w ∈ wsX1_init := fun w h => List.mem_cons_of_mem _ (List.mem_append_right _ h)
abbrev rmX1_init : Room := { frames := 1, cells := 0, slots := 0, locals := 40 }
set_option maxHeartbeats 8000000 in
set_option maxRecDepth 100000 in
theorem kX1_init {N : (Nat → Prop) → State → Prop} {D : va_G} {κ : Nat → ClassId} {l : Launch} {q : Nat} {a b : Int32} (hNP : NP N) : Kc N D (Ky κ) l yX1_init wsX1_init rmX1_init [.ref q, .int a, .int b] [(q, .inr (1, [.int 0, .int 0, .int 0, .int 0, .int 0, .int 0, .int 0, .int 0, .int 0, .int 0, .int 0, .int 0]))] (fun _ : Unit => [(q, .inr (1, [.int a, .int b, .int 0, .int 0, .int 0, .int 0, .int 0, .int 0, .int 0, .int (-1), .int 0, .int 0]))]) (fun _ => True) 0 0 := by
  refine ofW_c (cc := cX1_init) (maxL := 3) (by decide) rfl (Nat.le_of_ble_eq_true rfl) ?_
  intro p e s m args below meth c A ls X hr hlk hmn hw hl
  have hl : lv_has ls 3 [(0, .ref q), (1, .int a), (2, .int b)] := hl
  refine lv_aload_n X.1 X.2.1 dX1_init_0 rfl (lv_at hl 0 rfl) ?_
  refine r_oinit X hl.1 (X.2.2.2.2 _ (by decide +kernel)) (X.2.2.2.2 _ (by decide +kernel)) (X.2.2.2.2 _ (by decide +kernel)) (Nat.le_of_ble_eq_true rfl) (Nat.le_of_ble_eq_true rfl) dX1_init_1 ?_
  refine lv_aload_n X.1 X.2.1 dX1_init_4 rfl (lv_at hl 0 rfl) ?_
  refine lv_iload_n X.1 X.2.1 dX1_init_5 rfl (lv_at hl 1 rfl) ?_
  refine r_pfF (ty := .int) X inX1_init_X1 tyX1_ok nmX1 hmn hw 0 rfl rfl 0 (by decide) (X.2.2.2.2 (.fieldLink RX1 9 "TestHall$Learner" "number" "I") (by decide +kernel)) rfl rfl rfl (by decide +kernel) rfl rfl (Nat.le_of_ble_eq_true rfl) dX1_init_6 (fun H locs hw => ?_)
  refine lv_aload_n X.1 X.2.1 dX1_init_9 rfl (lv_at hl 0 rfl) ?_
  refine lv_iload_n X.1 X.2.1 dX1_init_10 rfl (lv_at hl 2 rfl) ?_
  refine r_pfF (ty := .int) X inX1_init_X1 tyX1_ok nmX1 hmn hw 0 rfl rfl 1 (by decide) (X.2.2.2.2 (.fieldLink RX1 15 "TestHall$Learner" "came" "I") (by decide +kernel)) rfl rfl rfl (by decide +kernel) rfl rfl (Nat.le_of_ble_eq_true rfl) dX1_init_11 (fun H locs hw => ?_)
  refine lv_aload_n X.1 X.2.1 dX1_init_14 rfl (lv_at hl 0 rfl) ?_
  refine lv_iconst (v := (0 : Int32)) X.1 X.2.1 dX1_init_15 (by decide) ?_
  refine r_pf (ty := .int) X inX1_init_X1 tyX1_ok nmX1 hw 0 rfl rfl 8 (by decide) (X.2.2.2.2 (.fieldLink RX1 18 "TestHall$Learner" "state" "I") (by decide +kernel)) rfl rfl (by decide +kernel) rfl rfl (Nat.le_of_ble_eq_true rfl) rfl dX1_init_16 (fun H locs hw => ?_)
  refine lv_aload_n X.1 X.2.1 dX1_init_19 rfl (lv_at hl 0 rfl) ?_
  refine lv_iconst (v := (-1 : Int32)) X.1 X.2.1 dX1_init_20 (by decide) ?_
  refine r_pf (ty := .int) X inX1_init_X1 tyX1_ok nmX1 hw 0 rfl rfl 9 (by decide) (X.2.2.2.2 (.fieldLink RX1 21 "TestHall$Learner" "slot" "I") (by decide +kernel)) rfl rfl (by decide +kernel) rfl rfl (Nat.le_of_ble_eq_true rfl) rfl dX1_init_21 (fun H locs hw => ?_)
  exact r_cret () X hr hlk hw trivial dX1_init_24
theorem inX9_init_X9 : ∀ w ∈ wsX90, w ∈ wsX9_init := fun w h => List.mem_cons_of_mem _ (List.mem_append_right _ h)
abbrev rmX9_init : Room := { frames := 1, cells := 40, slots := 7304, locals := 60 }
def mini : Sg := (sJ (sJ (sJ (sJ (sJ (sJ (sJ (sJ (sJ ((fun _ => 0, fun _ _ => 0, fun _ _ => 0) : Sg) 9 (0 : Int32).toNatClampNeg 11726208) 9 (1 : Int32).toNatClampNeg 1176170) 9 (2 : Int32).toNatClampNeg 1891) 9 (3 : Int32).toNatClampNeg 983628) 9 (4 : Int32).toNatClampNeg 1034460) 9 (5 : Int32).toNatClampNeg 43169436) 9 (6 : Int32).toNatClampNeg 38407499) 9 (7 : Int32).toNatClampNeg 614923) 9 (8 : Int32).toNatClampNeg 5538)
def mInit (M : Sg) : Prop := (∀ k, gI M k = 0) ∧ (∀ a, a ≠ 26 → ∀ j, gA M a j = 0) ∧ (∀ j, j < 480 → gA M 26 j = -1) ∧ gJ M 9 = gJ mini 9
def mwp (κ : Nat → ClassId) (as : List Nat) (k : Nat) : va_W := (as.getD 0 0, .inr (8, [.int 0, (if 1 ≤ k then .ref (as.getD 1 0) else .null), .int 0, .int 0, (if 2 ≤ k then .ref (as.getD 2 0) else .null), (if 3 ≤ k then .ref (as.getD 3 0) else .null), (if 4 ≤ k then .ref (as.getD 4 0) else .null), .int 0, .int 0, (if 5 ≤ k then .ref (as.getD 5 0) else .null), (if 6 ≤ k then .ref (as.getD 6 0) else .null), (if 7 ≤ k then .ref (as.getD 7 0) else .null), (if 8 ≤ k then .ref (as.getD 8 0) else .null), (if 9 ≤ k then .ref (as.getD 9 0) else .null), (if 10 ≤ k then .ref (as.getD 10 0) else .null), .int 0, .int 0, .int 0, .int 0, (if 11 ≤ k then .ref (as.getD 11 0) else .null), (if 12 ≤ k then .ref (as.getD 12 0) else .null), (if 13 ≤ k then .ref (as.getD 13 0) else .null), (if 14 ≤ k then .ref (as.getD 14 0) else .null), (if 15 ≤ k then .ref (as.getD 15 0) else .null), .int 0, .int 0, (if 16 ≤ k then .ref (as.getD 16 0) else .null), (if 17 ≤ k then .ref (as.getD 17 0) else .null), (if 18 ≤ k then .ref (as.getD 18 0) else .null), (if 19 ≤ k then .ref (as.getD 19 0) else .null), .int 0, (if 20 ≤ k then .ref (as.getD 20 0) else .null), (if 21 ≤ k then .ref (as.getD 21 0) else .null), (if 22 ≤ k then .ref (as.getD 22 0) else .null), (if 23 ≤ k then .ref (as.getD 23 0) else .null), (if 24 ≤ k then .ref (as.getD 24 0) else .null), (if 25 ≤ k then .ref (as.getD 25 0) else .null), (if 26 ≤ k then .ref (as.getD 26 0) else .null), (if 27 ≤ k then .ref (as.getD 27 0) else .null), (if 28 ≤ k then .ref (as.getD 28 0) else .null), (if 29 ≤ k then .ref (as.getD 29 0) else .null), (if 30 ≤ k then .ref (as.getD 30 0) else .null), .int 0, (if 31 ≤ k then .ref (as.getD 31 0) else .null), (if 32 ≤ k then .ref (as.getD 32 0) else .null), .int 0, (if 33 ≤ k then .ref (as.getD 33 0) else .null), (if 34 ≤ k then .ref (as.getD 34 0) else .null), (if 35 ≤ k then .ref (as.getD 35 0) else .null), (if 36 ≤ k then .ref (as.getD 36 0) else .null), (if 37 ≤ k then .ref (as.getD 37 0) else .null), (if 38 ≤ k then .ref (as.getD 38 0) else .null), (if 39 ≤ k then .ref (as.getD 39 0) else .null), .int 0, (if 40 ≤ k then .ref (as.getD 40 0) else .null), .int 0, .int 0, .int 0, .int 0, .int 0, .int 0, .int 0])) :: List.take k [(as.getD 1 0, .inl (κ 0, 600, .inl (fun _ => 0))), (as.getD 2 0, .inl (κ 0, 602, .inl (fun _ => 0))), (as.getD 3 0, .inl (κ 0, 602, .inl (fun _ => 0))), (as.getD 4 0, .inl (κ 3, 602, .inr (.inl (fun _ => 0)))), (as.getD 5 0, .inl (κ 3, 9, .inr (.inl (gJ mini 9)))), (as.getD 6 0, .inl (κ 0, 2, .inl (fun _ => 0))), (as.getD 7 0, .inl (κ 0, 32, .inl (fun _ => 0))), (as.getD 8 0, .inl (κ 0, 32, .inl (fun _ => 0))), (as.getD 9 0, .inl (κ 0, 1320, .inl (fun _ => 0))), (as.getD 10 0, .inl (κ 0, 1320, .inl (fun _ => 0))), (as.getD 11 0, .inl (κ 0, 7, .inl (fun _ => 0))), (as.getD 12 0, .inl (κ 0, 7, .inl (fun _ => 0))), (as.getD 13 0, .inl (κ 0, 7, .inl (fun _ => 0))), (as.getD 14 0, .inl (κ 0, 6, .inl (fun _ => 0))), (as.getD 15 0, .inl (κ 0, 660, .inl (fun _ => 0))), (as.getD 16 0, .inl (κ 0, 480, .inl (fun _ => 0))), (as.getD 17 0, .inl (κ 1, 60, .inl (fun _ => 0))), (as.getD 18 0, .inl (κ 0, 8, .inl (fun _ => 0))), (as.getD 19 0, .inl (κ 0, 8, .inl (fun _ => 0))), (as.getD 20 0, .inl (κ 0, 60, .inl (fun _ => 0))), (as.getD 21 0, .inl (κ 0, 60, .inl (fun _ => 0))), (as.getD 22 0, .inl (κ 0, 60, .inl (fun _ => 0))), (as.getD 23 0, .inl (κ 0, 60, .inl (fun _ => 0))), (as.getD 24 0, .inl (κ 0, 60, .inl (fun _ => 0))), (as.getD 25 0, .inl (κ 1, 60, .inl (fun _ => 0))), (as.getD 26 0, .inl (κ 0, 60, .inl (fun _ => 0))), (as.getD 27 0, .inl (κ 0, 60, .inl (fun _ => 0))), (as.getD 28 0, .inl (κ 0, 60, .inl (fun _ => 0))), (as.getD 29 0, .inl (κ 0, 60, .inl (fun _ => 0))), (as.getD 30 0, .inl (κ 0, 60, .inl (fun _ => 0))), (as.getD 31 0, .inl (κ 0, 60, .inl (fun _ => 0))), (as.getD 32 0, .inl (κ 1, 60, .inl (fun _ => 0))), (as.getD 33 0, .inl (κ 0, 24, .inl (fun _ => 0))), (as.getD 34 0, .inl (κ 0, 24, .inl (fun _ => 0))), (as.getD 35 0, .inl (κ 0, 24, .inl (fun _ => 0))), (as.getD 36 0, .inl (κ 0, 24, .inl (fun _ => 0))), (as.getD 37 0, .inl (κ 1, 24, .inl (fun _ => 0))), (as.getD 38 0, .inl (κ 1, 24, .inl (fun _ => 0))), (as.getD 39 0, .inl (κ 0, 8, .inl (fun _ => 0))), (as.getD 40 0, .inl (κ 0, 8, .inl (fun _ => 0)))]
set_option maxHeartbeats 4000000 in
set_option maxRecDepth 100000 in
theorem X9_init_loop {p : Program} {l : Launch} {e : Env} {s : State} {m : MethodId} {args : Array Value} {below : List Frame} {meth : Method} {c : Code} {N : (Nat → Prop) → State → Prop} {D : va_G} {A : Nat → Prop} {κ : Nat → ClassId} {η : Nat → Nat} {q : Nat} (hq : η 0 = q) (X : CallFix p m c cX9_init 2 s args wsX9_init RX9) (hr : meth.sig.returnType = none) (hlk : meth.locks = false) : ∀ (k i : Nat) (M : Sg) (H : Heap) (locs : List Loc) (ls : Array Slot), i + k = 480 → ((∀ k, gI M k = 0) ∧ (∀ a, a ≠ 26 → ∀ j, gA M a j = 0) ∧ (∀ j, j < i → gA M 26 j = -1) ∧ gJ M 9 = gJ mini 9) → Wd N D (Ky κ) A s (mw κ η M) H locs → lv_has ls 2 [(0, .ref (η 0)), (1, .int (nI i))] → W p l e rmX9_init s m args below meth c H locs 40 7304 (MQ below (va_Qv (fun u : (Nat → Nat) × Sg => u.1 0 = q ∧ mInit u.2) (fun u t => va_P D vwCl (mw κ u.1 u.2) t.heap ∧ va_K D vwCl (Ky κ) t ∧ va_D A (mw κ u.1 u.2)) A) args s 40 7304 A) (F0 m 390 ls []) := by
  intro k
  induction k with
  | zero =>
    intro i M H locs ls hi hM hw hl
    refine lv_iload_n X.1 X.2.1 dX9_init_390 rfl (lv_at hl 1 rfl) ?_
    refine lv_sipush (v := nI 480) X.1 X.2.1 dX9_init_391 (by decide) ?_
    refine lv_icmp_ge (tgt := 410) X.1 X.2.1 dX9_init_394 (by decide) (fun c_ => ?_) (fun c_ => absurd (nI_le (by omega) (by omega)) c_)
    exact r_cret (wf := fun u : (Nat → Nat) × Sg => mw κ u.1 u.2) (η, M) X hr hlk hw ⟨hq, hM.1, hM.2.1, fun j hj => hM.2.2.1 j (by omega), hM.2.2.2⟩ dX9_init_410
  | succ k ih =>
    intro i M H locs ls hi hM hw hl
    refine lv_iload_n X.1 X.2.1 dX9_init_390 rfl (lv_at hl 1 rfl) ?_
    refine lv_sipush (v := nI 480) X.1 X.2.1 dX9_init_391 (by decide) ?_
    refine lv_icmp_ge (tgt := 410) X.1 X.2.1 dX9_init_394 (by decide) (fun c_ => absurd c_ (nI_ge (by omega) (by omega))) (fun c_ => ?_)
    refine lv_aload_n X.1 X.2.1 dX9_init_397 rfl (lv_at hl 0 rfl) ?_
    refine r_gf X inX9_init_X9 hw 0 rfl rfl 26 (by decide) (X.2.2.2.2 (.fieldLink RX9 85 "TestHallModel" "town" "[I") (by decide +kernel)) rfl rfl dX9_init_398 ?_
    refine lv_iload_n X.1 X.2.1 dX9_init_401 rfl (lv_at hl 1 rfl) ?_
    refine lv_iconst (v := (-1 : Int32)) X.1 X.2.1 dX9_init_402 (by decide) ?_
    refine r_ias (w' := mw κ η (sA M 26 i (-1))) X hw 16 0 rfl rfl (vp_in_nI (by omega) (by decide)) (by rw [nI_clamp (by omega)]; rfl) dX9_init_403 (fun H locs hw => ?_)
    refine lv_iinc (v := nI (i + 1)) (lv' := [(1, .int (nI (i + 1))), (0, .ref (η 0))]) X.1 X.2.1 dX9_init_404 hl (k := 1) rfl (nI_succ i).symm (by decide) rfl (fun ls hl => ?_)
    refine lv_goto (tgt := 390) X.1 X.2.1 dX9_init_407 (by decide) ?_
    refine ih (i + 1) (sA M 26 i (-1)) _ _ _ (by omega) ⟨hM.1, fun a ha j => ?_, fun j hj => ?_, hM.2.2.2⟩ hw (lv_sub hl [1, 0] rfl)
    · rw [gA_sA, if_neg ha]; exact hM.2.1 a ha j
    · rw [gA_sA, if_pos rfl]
      by_cases ej : j = i
      · rw [ej]; exact pk_us
      · rw [pk_un ej]; exact hM.2.2.1 j (by omega)
set_option maxHeartbeats 8000000 in
set_option maxRecDepth 100000 in
theorem kX9_init {N : (Nat → Prop) → State → Prop} {D : va_G} {κ : Nat → ClassId} {l : Launch} {q : Nat} (hNP : NP N) : Kc N D (Ky κ) l yX9_init wsX9_init rmX9_init [.ref q] [(q, .inr (8, [.int 0, .null, .int 0, .int 0, .null, .null, .null, .int 0, .int 0, .null, .null, .null, .null, .null, .null, .int 0, .int 0, .int 0, .int 0, .null, .null, .null, .null, .null, .int 0, .int 0, .null, .null, .null, .null, .int 0, .null, .null, .null, .null, .null, .null, .null, .null, .null, .null, .null, .int 0, .null, .null, .int 0, .null, .null, .null, .null, .null, .null, .null, .int 0, .null, .int 0, .int 0, .int 0, .int 0, .int 0, .int 0, .int 0]))] (fun u : (Nat → Nat) × Sg => mw κ u.1 u.2) (fun u => u.1 0 = q ∧ mInit u.2) 40 7304 := by
  refine ofW_c (cc := cX9_init) (maxL := 2) (by decide) rfl (Nat.le_of_ble_eq_true rfl) ?_
  intro p e s m args below meth c A ls X hr hlk hmn hw hl
  have hl : lv_has ls 2 [(0, .ref q)] := hl
  refine lv_aload_n X.1 X.2.1 dX9_init_0 rfl (lv_at hl 0 rfl) ?_
  refine r_oinit X hl.1 (X.2.2.2.2 _ (by decide +kernel)) (X.2.2.2.2 _ (by decide +kernel)) (X.2.2.2.2 _ (by decide +kernel)) (Nat.le_of_ble_eq_true rfl) (Nat.le_of_ble_eq_true rfl) dX9_init_1 ?_
  refine lv_aload_n X.1 X.2.1 dX9_init_4 rfl (lv_at hl 0 rfl) ?_
  refine lv_sipush (v := (600 : Int32)) X.1 X.2.1 dX9_init_5 (by decide) ?_
  refine r_newa (a0 := (600, .inl (fun _ => 0))) X hw 0 rfl rfl (fun _ h => by cases h) (X.2.2.2.2 _ (by decide +kernel)) (fun _ => rfl) (by decide) (by decide) (by decide) (Nat.le_of_ble_eq_true rfl) (Nat.le_of_ble_eq_true rfl) dX9_init_8 (fun q1 H hw => ?_)
  refine r_pfF (ty := (.array .int)) X inX9_init_X9 tyX9_ok nmX9 hmn hw 0 rfl rfl 1 (by decide) (X.2.2.2.2 (.fieldLink RX9 14 "TestHallModel" "tape" "[I") (by decide +kernel)) rfl rfl rfl (by decide +kernel) rfl rfl (Nat.le_of_ble_eq_true rfl) dX9_init_10 (fun H locs hw => ?_)
  have hw : Wd N D (Ky κ) A s (mwp κ [q, q1] 1) H locs := hw
  refine lv_aload_n X.1 X.2.1 dX9_init_13 rfl (lv_at hl 0 rfl) ?_
  refine lv_sipush (v := (602 : Int32)) X.1 X.2.1 dX9_init_14 (by decide) ?_
  refine r_newa (a0 := (602, .inl (fun _ => 0))) X hw 0 rfl rfl (fun _ h => by cases h) (X.2.2.2.2 _ (by decide +kernel)) (fun _ => rfl) (by decide) (by decide) (by decide) (Nat.le_of_ble_eq_true rfl) (Nat.le_of_ble_eq_true rfl) dX9_init_17 (fun q2 H hw => ?_)
  refine r_pfF (ty := (.array .int)) X inX9_init_X9 tyX9_ok nmX9 hmn hw 0 rfl rfl 4 (by decide) (X.2.2.2.2 (.fieldLink RX9 24 "TestHallModel" "sort" "[I") (by decide +kernel)) rfl rfl rfl (by decide +kernel) rfl rfl (Nat.le_of_ble_eq_true rfl) dX9_init_19 (fun H locs hw => ?_)
  have hw : Wd N D (Ky κ) A s (mwp κ [q, q1, q2] 2) H locs := hw
  refine lv_aload_n X.1 X.2.1 dX9_init_22 rfl (lv_at hl 0 rfl) ?_
  refine lv_sipush (v := (602 : Int32)) X.1 X.2.1 dX9_init_23 (by decide) ?_
  refine r_newa (a0 := (602, .inl (fun _ => 0))) X hw 0 rfl rfl (fun _ h => by cases h) (X.2.2.2.2 _ (by decide +kernel)) (fun _ => rfl) (by decide) (by decide) (by decide) (Nat.le_of_ble_eq_true rfl) (Nat.le_of_ble_eq_true rfl) dX9_init_26 (fun q3 H hw => ?_)
  refine r_pfF (ty := (.array .int)) X inX9_init_X9 tyX9_ok nmX9 hmn hw 0 rfl rfl 5 (by decide) (X.2.2.2.2 (.fieldLink RX9 27 "TestHallModel" "place" "[I") (by decide +kernel)) rfl rfl rfl (by decide +kernel) rfl rfl (Nat.le_of_ble_eq_true rfl) dX9_init_28 (fun H locs hw => ?_)
  have hw : Wd N D (Ky κ) A s (mwp κ [q, q1, q2, q3] 3) H locs := hw
  refine lv_aload_n X.1 X.2.1 dX9_init_31 rfl (lv_at hl 0 rfl) ?_
  refine lv_sipush (v := (602 : Int32)) X.1 X.2.1 dX9_init_32 (by decide) ?_
  refine r_newa (a0 := (602, .inr (.inl (fun _ => 0)))) X hw 3 rfl rfl (fun _ h => by cases h) (X.2.2.2.2 _ (by decide +kernel)) (fun _ => rfl) (by decide) (by decide) (by decide) (Nat.le_of_ble_eq_true rfl) (Nat.le_of_ble_eq_true rfl) dX9_init_35 (fun q4 H hw => ?_)
  refine r_pfF (ty := (.array .long)) X inX9_init_X9 tyX9_ok nmX9 hmn hw 0 rfl rfl 6 (by decide) (X.2.2.2.2 (.fieldLink RX9 30 "TestHallModel" "value" "[J") (by decide +kernel)) rfl rfl rfl (by decide +kernel) rfl rfl (Nat.le_of_ble_eq_true rfl) dX9_init_37 (fun H locs hw => ?_)
  have hw : Wd N D (Ky κ) A s (mwp κ [q, q1, q2, q3, q4] 4) H locs := hw
  refine lv_aload_n X.1 X.2.1 dX9_init_40 rfl (lv_at hl 0 rfl) ?_
  refine lv_bipush (v := (9 : Int32)) X.1 X.2.1 dX9_init_41 (by decide) ?_
  refine r_newa (a0 := (9, .inr (.inl (fun _ => 0)))) X hw 3 rfl rfl (fun _ h => by cases h) (X.2.2.2.2 _ (by decide +kernel)) (fun _ => rfl) (by decide) (by decide) (by decide) (Nat.le_of_ble_eq_true rfl) (Nat.le_of_ble_eq_true rfl) dX9_init_43 (fun q5 H hw => ?_)
  refine lv_dup X.1 X.2.1 dX9_init_45 rfl ?_
  refine lv_iconst (v := (0 : Int32)) X.1 X.2.1 dX9_init_46 (by decide) ?_
  refine lv_ldc2 (v := (11726208 : Int64)) X.1 X.2.1 X.2.2.2.1 (X.2.2.2.2 _ (by decide +kernel)) dX9_init_47 ?_
  refine r_las X hw 5 3 rfl rfl (by unfold vp_in; decide) rfl dX9_init_50 (fun H locs hw => ?_)
  refine lv_dup X.1 X.2.1 dX9_init_51 rfl ?_
  refine lv_iconst (v := (1 : Int32)) X.1 X.2.1 dX9_init_52 (by decide) ?_
  refine lv_ldc2 (v := (1176170 : Int64)) X.1 X.2.1 X.2.2.2.1 (X.2.2.2.2 _ (by decide +kernel)) dX9_init_53 ?_
  refine r_las X hw 5 3 rfl rfl (by unfold vp_in; decide) rfl dX9_init_56 (fun H locs hw => ?_)
  refine lv_dup X.1 X.2.1 dX9_init_57 rfl ?_
  refine lv_iconst (v := (2 : Int32)) X.1 X.2.1 dX9_init_58 (by decide) ?_
  refine lv_ldc2 (v := (1891 : Int64)) X.1 X.2.1 X.2.2.2.1 (X.2.2.2.2 _ (by decide +kernel)) dX9_init_59 ?_
  refine r_las X hw 5 3 rfl rfl (by unfold vp_in; decide) rfl dX9_init_62 (fun H locs hw => ?_)
  refine lv_dup X.1 X.2.1 dX9_init_63 rfl ?_
  refine lv_iconst (v := (3 : Int32)) X.1 X.2.1 dX9_init_64 (by decide) ?_
  refine lv_ldc2 (v := (983628 : Int64)) X.1 X.2.1 X.2.2.2.1 (X.2.2.2.2 _ (by decide +kernel)) dX9_init_65 ?_
  refine r_las X hw 5 3 rfl rfl (by unfold vp_in; decide) rfl dX9_init_68 (fun H locs hw => ?_)
  refine lv_dup X.1 X.2.1 dX9_init_69 rfl ?_
  refine lv_iconst (v := (4 : Int32)) X.1 X.2.1 dX9_init_70 (by decide) ?_
  refine lv_ldc2 (v := (1034460 : Int64)) X.1 X.2.1 X.2.2.2.1 (X.2.2.2.2 _ (by decide +kernel)) dX9_init_71 ?_
  refine r_las X hw 5 3 rfl rfl (by unfold vp_in; decide) rfl dX9_init_74 (fun H locs hw => ?_)
  refine lv_dup X.1 X.2.1 dX9_init_75 rfl ?_
  refine lv_iconst (v := (5 : Int32)) X.1 X.2.1 dX9_init_76 (by decide) ?_
  refine lv_ldc2 (v := (43169436 : Int64)) X.1 X.2.1 X.2.2.2.1 (X.2.2.2.2 _ (by decide +kernel)) dX9_init_77 ?_
  refine r_las X hw 5 3 rfl rfl (by unfold vp_in; decide) rfl dX9_init_80 (fun H locs hw => ?_)
  refine lv_dup X.1 X.2.1 dX9_init_81 rfl ?_
  refine lv_bipush (v := (6 : Int32)) X.1 X.2.1 dX9_init_82 (by decide) ?_
  refine lv_ldc2 (v := (38407499 : Int64)) X.1 X.2.1 X.2.2.2.1 (X.2.2.2.2 _ (by decide +kernel)) dX9_init_84 ?_
  refine r_las X hw 5 3 rfl rfl (by unfold vp_in; decide) rfl dX9_init_87 (fun H locs hw => ?_)
  refine lv_dup X.1 X.2.1 dX9_init_88 rfl ?_
  refine lv_bipush (v := (7 : Int32)) X.1 X.2.1 dX9_init_89 (by decide) ?_
  refine lv_ldc2 (v := (614923 : Int64)) X.1 X.2.1 X.2.2.2.1 (X.2.2.2.2 _ (by decide +kernel)) dX9_init_91 ?_
  refine r_las X hw 5 3 rfl rfl (by unfold vp_in; decide) rfl dX9_init_94 (fun H locs hw => ?_)
  refine lv_dup X.1 X.2.1 dX9_init_95 rfl ?_
  refine lv_bipush (v := (8 : Int32)) X.1 X.2.1 dX9_init_96 (by decide) ?_
  refine lv_ldc2 (v := (5538 : Int64)) X.1 X.2.1 X.2.2.2.1 (X.2.2.2.2 _ (by decide +kernel)) dX9_init_98 ?_
  refine r_las X hw 5 3 rfl rfl (by unfold vp_in; decide) rfl dX9_init_101 (fun H locs hw => ?_)
  refine r_pfF (ty := (.array .long)) X inX9_init_X9 tyX9_ok nmX9 hmn hw 0 rfl rfl 9 (by decide) (X.2.2.2.2 (.fieldLink RX9 52 "TestHallModel" "words" "[J") (by decide +kernel)) rfl rfl rfl (by decide +kernel) rfl rfl (Nat.le_of_ble_eq_true rfl) dX9_init_102 (fun H locs hw => ?_)
  have hw : Wd N D (Ky κ) A s (mwp κ [q, q1, q2, q3, q4, q5] 5) H locs := hw
  refine lv_aload_n X.1 X.2.1 dX9_init_105 rfl (lv_at hl 0 rfl) ?_
  refine lv_iconst (v := (2 : Int32)) X.1 X.2.1 dX9_init_106 (by decide) ?_
  refine r_newa (a0 := (2, .inl (fun _ => 0))) X hw 0 rfl rfl (fun _ h => by cases h) (X.2.2.2.2 _ (by decide +kernel)) (fun _ => rfl) (by decide) (by decide) (by decide) (Nat.le_of_ble_eq_true rfl) (Nat.le_of_ble_eq_true rfl) dX9_init_107 (fun q6 H hw => ?_)
  refine r_pfF (ty := (.array .int)) X inX9_init_X9 tyX9_ok nmX9 hmn hw 0 rfl rfl 10 (by decide) (X.2.2.2.2 (.fieldLink RX9 55 "TestHallModel" "lines" "[I") (by decide +kernel)) rfl rfl rfl (by decide +kernel) rfl rfl (Nat.le_of_ble_eq_true rfl) dX9_init_109 (fun H locs hw => ?_)
  have hw : Wd N D (Ky κ) A s (mwp κ [q, q1, q2, q3, q4, q5, q6] 6) H locs := hw
  refine lv_aload_n X.1 X.2.1 dX9_init_112 rfl (lv_at hl 0 rfl) ?_
  refine lv_bipush (v := (32 : Int32)) X.1 X.2.1 dX9_init_113 (by decide) ?_
  refine r_newa (a0 := (32, .inl (fun _ => 0))) X hw 0 rfl rfl (fun _ h => by cases h) (X.2.2.2.2 _ (by decide +kernel)) (fun _ => rfl) (by decide) (by decide) (by decide) (Nat.le_of_ble_eq_true rfl) (Nat.le_of_ble_eq_true rfl) dX9_init_115 (fun q7 H hw => ?_)
  refine r_pfF (ty := (.array .int)) X inX9_init_X9 tyX9_ok nmX9 hmn hw 0 rfl rfl 11 (by decide) (X.2.2.2.2 (.fieldLink RX9 58 "TestHallModel" "lineN" "[I") (by decide +kernel)) rfl rfl rfl (by decide +kernel) rfl rfl (Nat.le_of_ble_eq_true rfl) dX9_init_117 (fun H locs hw => ?_)
  have hw : Wd N D (Ky κ) A s (mwp κ [q, q1, q2, q3, q4, q5, q6, q7] 7) H locs := hw
  refine lv_aload_n X.1 X.2.1 dX9_init_120 rfl (lv_at hl 0 rfl) ?_
  refine lv_bipush (v := (32 : Int32)) X.1 X.2.1 dX9_init_121 (by decide) ?_
  refine r_newa (a0 := (32, .inl (fun _ => 0))) X hw 0 rfl rfl (fun _ h => by cases h) (X.2.2.2.2 _ (by decide +kernel)) (fun _ => rfl) (by decide) (by decide) (by decide) (Nat.le_of_ble_eq_true rfl) (Nat.le_of_ble_eq_true rfl) dX9_init_123 (fun q8 H hw => ?_)
  refine r_pfF (ty := (.array .int)) X inX9_init_X9 tyX9_ok nmX9 hmn hw 0 rfl rfl 12 (by decide) (X.2.2.2.2 (.fieldLink RX9 61 "TestHallModel" "lineAt" "[I") (by decide +kernel)) rfl rfl rfl (by decide +kernel) rfl rfl (Nat.le_of_ble_eq_true rfl) dX9_init_125 (fun H locs hw => ?_)
  have hw : Wd N D (Ky κ) A s (mwp κ [q, q1, q2, q3, q4, q5, q6, q7, q8] 8) H locs := hw
  refine lv_aload_n X.1 X.2.1 dX9_init_128 rfl (lv_at hl 0 rfl) ?_
  refine lv_sipush (v := (1320 : Int32)) X.1 X.2.1 dX9_init_129 (by decide) ?_
  refine r_newa (a0 := (1320, .inl (fun _ => 0))) X hw 0 rfl rfl (fun _ h => by cases h) (X.2.2.2.2 _ (by decide +kernel)) (fun _ => rfl) (by decide) (by decide) (by decide) (Nat.le_of_ble_eq_true rfl) (Nat.le_of_ble_eq_true rfl) dX9_init_132 (fun q9 H hw => ?_)
  refine r_pfF (ty := (.array .int)) X inX9_init_X9 tyX9_ok nmX9 hmn hw 0 rfl rfl 13 (by decide) (X.2.2.2.2 (.fieldLink RX9 64 "TestHallModel" "op" "[I") (by decide +kernel)) rfl rfl rfl (by decide +kernel) rfl rfl (Nat.le_of_ble_eq_true rfl) dX9_init_134 (fun H locs hw => ?_)
  have hw : Wd N D (Ky κ) A s (mwp κ [q, q1, q2, q3, q4, q5, q6, q7, q8, q9] 9) H locs := hw
  refine lv_aload_n X.1 X.2.1 dX9_init_137 rfl (lv_at hl 0 rfl) ?_
  refine lv_sipush (v := (1320 : Int32)) X.1 X.2.1 dX9_init_138 (by decide) ?_
  refine r_newa (a0 := (1320, .inl (fun _ => 0))) X hw 0 rfl rfl (fun _ h => by cases h) (X.2.2.2.2 _ (by decide +kernel)) (fun _ => rfl) (by decide) (by decide) (by decide) (Nat.le_of_ble_eq_true rfl) (Nat.le_of_ble_eq_true rfl) dX9_init_141 (fun q10 H hw => ?_)
  refine r_pfF (ty := (.array .int)) X inX9_init_X9 tyX9_ok nmX9 hmn hw 0 rfl rfl 14 (by decide) (X.2.2.2.2 (.fieldLink RX9 67 "TestHallModel" "one" "[I") (by decide +kernel)) rfl rfl rfl (by decide +kernel) rfl rfl (Nat.le_of_ble_eq_true rfl) dX9_init_143 (fun H locs hw => ?_)
  have hw : Wd N D (Ky κ) A s (mwp κ [q, q1, q2, q3, q4, q5, q6, q7, q8, q9, q10] 10) H locs := hw
  refine lv_aload_n X.1 X.2.1 dX9_init_146 rfl (lv_at hl 0 rfl) ?_
  refine lv_bipush (v := (7 : Int32)) X.1 X.2.1 dX9_init_147 (by decide) ?_
  refine r_newa (a0 := (7, .inl (fun _ => 0))) X hw 0 rfl rfl (fun _ h => by cases h) (X.2.2.2.2 _ (by decide +kernel)) (fun _ => rfl) (by decide) (by decide) (by decide) (Nat.le_of_ble_eq_true rfl) (Nat.le_of_ble_eq_true rfl) dX9_init_149 (fun q11 H hw => ?_)
  refine r_pfF (ty := (.array .int)) X inX9_init_X9 tyX9_ok nmX9 hmn hw 0 rfl rfl 19 (by decide) (X.2.2.2.2 (.fieldLink RX9 70 "TestHallModel" "sumWaits" "[I") (by decide +kernel)) rfl rfl rfl (by decide +kernel) rfl rfl (Nat.le_of_ble_eq_true rfl) dX9_init_151 (fun H locs hw => ?_)
  have hw : Wd N D (Ky κ) A s (mwp κ [q, q1, q2, q3, q4, q5, q6, q7, q8, q9, q10, q11] 11) H locs := hw
  refine lv_aload_n X.1 X.2.1 dX9_init_154 rfl (lv_at hl 0 rfl) ?_
  refine lv_bipush (v := (7 : Int32)) X.1 X.2.1 dX9_init_155 (by decide) ?_
  refine r_newa (a0 := (7, .inl (fun _ => 0))) X hw 0 rfl rfl (fun _ h => by cases h) (X.2.2.2.2 _ (by decide +kernel)) (fun _ => rfl) (by decide) (by decide) (by decide) (Nat.le_of_ble_eq_true rfl) (Nat.le_of_ble_eq_true rfl) dX9_init_157 (fun q12 H hw => ?_)
  refine r_pfF (ty := (.array .int)) X inX9_init_X9 tyX9_ok nmX9 hmn hw 0 rfl rfl 20 (by decide) (X.2.2.2.2 (.fieldLink RX9 73 "TestHallModel" "signWaits" "[I") (by decide +kernel)) rfl rfl rfl (by decide +kernel) rfl rfl (Nat.le_of_ble_eq_true rfl) dX9_init_159 (fun H locs hw => ?_)
  have hw : Wd N D (Ky κ) A s (mwp κ [q, q1, q2, q3, q4, q5, q6, q7, q8, q9, q10, q11, q12] 12) H locs := hw
  refine lv_aload_n X.1 X.2.1 dX9_init_162 rfl (lv_at hl 0 rfl) ?_
  refine lv_bipush (v := (7 : Int32)) X.1 X.2.1 dX9_init_163 (by decide) ?_
  refine r_newa (a0 := (7, .inl (fun _ => 0))) X hw 0 rfl rfl (fun _ h => by cases h) (X.2.2.2.2 _ (by decide +kernel)) (fun _ => rfl) (by decide) (by decide) (by decide) (Nat.le_of_ble_eq_true rfl) (Nat.le_of_ble_eq_true rfl) dX9_init_165 (fun q13 H hw => ?_)
  refine r_pfF (ty := (.array .int)) X inX9_init_X9 tyX9_ok nmX9 hmn hw 0 rfl rfl 21 (by decide) (X.2.2.2.2 (.fieldLink RX9 76 "TestHallModel" "andWaits" "[I") (by decide +kernel)) rfl rfl rfl (by decide +kernel) rfl rfl (Nat.le_of_ble_eq_true rfl) dX9_init_167 (fun H locs hw => ?_)
  have hw : Wd N D (Ky κ) A s (mwp κ [q, q1, q2, q3, q4, q5, q6, q7, q8, q9, q10, q11, q12, q13] 13) H locs := hw
  refine lv_aload_n X.1 X.2.1 dX9_init_170 rfl (lv_at hl 0 rfl) ?_
  refine lv_bipush (v := (6 : Int32)) X.1 X.2.1 dX9_init_171 (by decide) ?_
  refine r_newa (a0 := (6, .inl (fun _ => 0))) X hw 0 rfl rfl (fun _ h => by cases h) (X.2.2.2.2 _ (by decide +kernel)) (fun _ => rfl) (by decide) (by decide) (by decide) (Nat.le_of_ble_eq_true rfl) (Nat.le_of_ble_eq_true rfl) dX9_init_173 (fun q14 H hw => ?_)
  refine r_pfF (ty := (.array .int)) X inX9_init_X9 tyX9_ok nmX9 hmn hw 0 rfl rfl 22 (by decide) (X.2.2.2.2 (.fieldLink RX9 79 "TestHallModel" "known" "[I") (by decide +kernel)) rfl rfl rfl (by decide +kernel) rfl rfl (Nat.le_of_ble_eq_true rfl) dX9_init_175 (fun H locs hw => ?_)
  have hw : Wd N D (Ky κ) A s (mwp κ [q, q1, q2, q3, q4, q5, q6, q7, q8, q9, q10, q11, q12, q13, q14] 14) H locs := hw
  refine lv_aload_n X.1 X.2.1 dX9_init_178 rfl (lv_at hl 0 rfl) ?_
  refine lv_sipush (v := (660 : Int32)) X.1 X.2.1 dX9_init_179 (by decide) ?_
  refine r_newa (a0 := (660, .inl (fun _ => 0))) X hw 0 rfl rfl (fun _ h => by cases h) (X.2.2.2.2 _ (by decide +kernel)) (fun _ => rfl) (by decide) (by decide) (by decide) (Nat.le_of_ble_eq_true rfl) (Nat.le_of_ble_eq_true rfl) dX9_init_182 (fun q15 H hw => ?_)
  refine r_pfF (ty := (.array .int)) X inX9_init_X9 tyX9_ok nmX9 hmn hw 0 rfl rfl 23 (by decide) (X.2.2.2.2 (.fieldLink RX9 82 "TestHallModel" "pile" "[I") (by decide +kernel)) rfl rfl rfl (by decide +kernel) rfl rfl (Nat.le_of_ble_eq_true rfl) dX9_init_184 (fun H locs hw => ?_)
  have hw : Wd N D (Ky κ) A s (mwp κ [q, q1, q2, q3, q4, q5, q6, q7, q8, q9, q10, q11, q12, q13, q14, q15] 15) H locs := hw
  refine lv_aload_n X.1 X.2.1 dX9_init_187 rfl (lv_at hl 0 rfl) ?_
  refine lv_sipush (v := (480 : Int32)) X.1 X.2.1 dX9_init_188 (by decide) ?_
  refine r_newa (a0 := (480, .inl (fun _ => 0))) X hw 0 rfl rfl (fun _ h => by cases h) (X.2.2.2.2 _ (by decide +kernel)) (fun _ => rfl) (by decide) (by decide) (by decide) (Nat.le_of_ble_eq_true rfl) (Nat.le_of_ble_eq_true rfl) dX9_init_191 (fun q16 H hw => ?_)
  refine r_pfF (ty := (.array .int)) X inX9_init_X9 tyX9_ok nmX9 hmn hw 0 rfl rfl 26 (by decide) (X.2.2.2.2 (.fieldLink RX9 85 "TestHallModel" "town" "[I") (by decide +kernel)) rfl rfl rfl (by decide +kernel) rfl rfl (Nat.le_of_ble_eq_true rfl) dX9_init_193 (fun H locs hw => ?_)
  have hw : Wd N D (Ky κ) A s (mwp κ [q, q1, q2, q3, q4, q5, q6, q7, q8, q9, q10, q11, q12, q13, q14, q15, q16] 16) H locs := hw
  refine lv_aload_n X.1 X.2.1 dX9_init_196 rfl (lv_at hl 0 rfl) ?_
  refine lv_bipush (v := (60 : Int32)) X.1 X.2.1 dX9_init_197 (by decide) ?_
  refine r_newa (a0 := (60, .inl (fun _ => 0))) X hw 1 rfl rfl (fun _ h => by cases h) (X.2.2.2.2 _ (by decide +kernel)) (fun _ => rfl) (by decide) (by decide) (by decide) (Nat.le_of_ble_eq_true rfl) (Nat.le_of_ble_eq_true rfl) dX9_init_199 (fun q17 H hw => ?_)
  refine r_pfF (ty := (.array .boolean)) X inX9_init_X9 tyX9_ok nmX9 hmn hw 0 rfl rfl 27 (by decide) (X.2.2.2.2 (.fieldLink RX9 88 "TestHallModel" "isShut" "[Z") (by decide +kernel)) rfl rfl rfl (by decide +kernel) rfl rfl (Nat.le_of_ble_eq_true rfl) dX9_init_201 (fun H locs hw => ?_)
  have hw : Wd N D (Ky κ) A s (mwp κ [q, q1, q2, q3, q4, q5, q6, q7, q8, q9, q10, q11, q12, q13, q14, q15, q16, q17] 17) H locs := hw
  refine lv_aload_n X.1 X.2.1 dX9_init_204 rfl (lv_at hl 0 rfl) ?_
  refine lv_bipush (v := (8 : Int32)) X.1 X.2.1 dX9_init_205 (by decide) ?_
  refine r_newa (a0 := (8, .inl (fun _ => 0))) X hw 0 rfl rfl (fun _ h => by cases h) (X.2.2.2.2 _ (by decide +kernel)) (fun _ => rfl) (by decide) (by decide) (by decide) (Nat.le_of_ble_eq_true rfl) (Nat.le_of_ble_eq_true rfl) dX9_init_207 (fun q18 H hw => ?_)
  refine r_pfF (ty := (.array .int)) X inX9_init_X9 tyX9_ok nmX9 hmn hw 0 rfl rfl 28 (by decide) (X.2.2.2.2 (.fieldLink RX9 92 "TestHallModel" "tests" "[I") (by decide +kernel)) rfl rfl rfl (by decide +kernel) rfl rfl (Nat.le_of_ble_eq_true rfl) dX9_init_209 (fun H locs hw => ?_)
  have hw : Wd N D (Ky κ) A s (mwp κ [q, q1, q2, q3, q4, q5, q6, q7, q8, q9, q10, q11, q12, q13, q14, q15, q16, q17, q18] 18) H locs := hw
  refine lv_aload_n X.1 X.2.1 dX9_init_212 rfl (lv_at hl 0 rfl) ?_
  refine lv_bipush (v := (8 : Int32)) X.1 X.2.1 dX9_init_213 (by decide) ?_
  refine r_newa (a0 := (8, .inl (fun _ => 0))) X hw 0 rfl rfl (fun _ h => by cases h) (X.2.2.2.2 _ (by decide +kernel)) (fun _ => rfl) (by decide) (by decide) (by decide) (Nat.le_of_ble_eq_true rfl) (Nat.le_of_ble_eq_true rfl) dX9_init_215 (fun q19 H hw => ?_)
  refine r_pfF (ty := (.array .int)) X inX9_init_X9 tyX9_ok nmX9 hmn hw 0 rfl rfl 29 (by decide) (X.2.2.2.2 (.fieldLink RX9 95 "TestHallModel" "passes" "[I") (by decide +kernel)) rfl rfl rfl (by decide +kernel) rfl rfl (Nat.le_of_ble_eq_true rfl) dX9_init_217 (fun H locs hw => ?_)
  have hw : Wd N D (Ky κ) A s (mwp κ [q, q1, q2, q3, q4, q5, q6, q7, q8, q9, q10, q11, q12, q13, q14, q15, q16, q17, q18, q19] 19) H locs := hw
  refine lv_aload_n X.1 X.2.1 dX9_init_220 rfl (lv_at hl 0 rfl) ?_
  refine lv_bipush (v := (60 : Int32)) X.1 X.2.1 dX9_init_221 (by decide) ?_
  refine r_newa (a0 := (60, .inl (fun _ => 0))) X hw 0 rfl rfl (fun _ h => by cases h) (X.2.2.2.2 _ (by decide +kernel)) (fun _ => rfl) (by decide) (by decide) (by decide) (Nat.le_of_ble_eq_true rfl) (Nat.le_of_ble_eq_true rfl) dX9_init_223 (fun q20 H hw => ?_)
  refine r_pfF (ty := (.array .int)) X inX9_init_X9 tyX9_ok nmX9 hmn hw 0 rfl rfl 31 (by decide) (X.2.2.2.2 (.fieldLink RX9 98 "TestHallModel" "home" "[I") (by decide +kernel)) rfl rfl rfl (by decide +kernel) rfl rfl (Nat.le_of_ble_eq_true rfl) dX9_init_225 (fun H locs hw => ?_)
  have hw : Wd N D (Ky κ) A s (mwp κ [q, q1, q2, q3, q4, q5, q6, q7, q8, q9, q10, q11, q12, q13, q14, q15, q16, q17, q18, q19, q20] 20) H locs := hw
  refine lv_aload_n X.1 X.2.1 dX9_init_228 rfl (lv_at hl 0 rfl) ?_
  refine lv_bipush (v := (60 : Int32)) X.1 X.2.1 dX9_init_229 (by decide) ?_
  refine r_newa (a0 := (60, .inl (fun _ => 0))) X hw 0 rfl rfl (fun _ h => by cases h) (X.2.2.2.2 _ (by decide +kernel)) (fun _ => rfl) (by decide) (by decide) (by decide) (Nat.le_of_ble_eq_true rfl) (Nat.le_of_ble_eq_true rfl) dX9_init_231 (fun q21 H hw => ?_)
  refine r_pfF (ty := (.array .int)) X inX9_init_X9 tyX9_ok nmX9 hmn hw 0 rfl rfl 32 (by decide) (X.2.2.2.2 (.fieldLink RX9 101 "TestHallModel" "kind" "[I") (by decide +kernel)) rfl rfl rfl (by decide +kernel) rfl rfl (Nat.le_of_ble_eq_true rfl) dX9_init_233 (fun H locs hw => ?_)
  have hw : Wd N D (Ky κ) A s (mwp κ [q, q1, q2, q3, q4, q5, q6, q7, q8, q9, q10, q11, q12, q13, q14, q15, q16, q17, q18, q19, q20, q21] 21) H locs := hw
  refine lv_aload_n X.1 X.2.1 dX9_init_236 rfl (lv_at hl 0 rfl) ?_
  refine lv_bipush (v := (60 : Int32)) X.1 X.2.1 dX9_init_237 (by decide) ?_
  refine r_newa (a0 := (60, .inl (fun _ => 0))) X hw 0 rfl rfl (fun _ h => by cases h) (X.2.2.2.2 _ (by decide +kernel)) (fun _ => rfl) (by decide) (by decide) (by decide) (Nat.le_of_ble_eq_true rfl) (Nat.le_of_ble_eq_true rfl) dX9_init_239 (fun q22 H hw => ?_)
  refine r_pfF (ty := (.array .int)) X inX9_init_X9 tyX9_ok nmX9 hmn hw 0 rfl rfl 33 (by decide) (X.2.2.2.2 (.fieldLink RX9 104 "TestHallModel" "from" "[I") (by decide +kernel)) rfl rfl rfl (by decide +kernel) rfl rfl (Nat.le_of_ble_eq_true rfl) dX9_init_241 (fun H locs hw => ?_)
  have hw : Wd N D (Ky κ) A s (mwp κ [q, q1, q2, q3, q4, q5, q6, q7, q8, q9, q10, q11, q12, q13, q14, q15, q16, q17, q18, q19, q20, q21, q22] 22) H locs := hw
  refine lv_aload_n X.1 X.2.1 dX9_init_244 rfl (lv_at hl 0 rfl) ?_
  refine lv_bipush (v := (60 : Int32)) X.1 X.2.1 dX9_init_245 (by decide) ?_
  refine r_newa (a0 := (60, .inl (fun _ => 0))) X hw 0 rfl rfl (fun _ h => by cases h) (X.2.2.2.2 _ (by decide +kernel)) (fun _ => rfl) (by decide) (by decide) (by decide) (Nat.le_of_ble_eq_true rfl) (Nat.le_of_ble_eq_true rfl) dX9_init_247 (fun q23 H hw => ?_)
  refine r_pfF (ty := (.array .int)) X inX9_init_X9 tyX9_ok nmX9 hmn hw 0 rfl rfl 34 (by decide) (X.2.2.2.2 (.fieldLink RX9 107 "TestHallModel" "to" "[I") (by decide +kernel)) rfl rfl rfl (by decide +kernel) rfl rfl (Nat.le_of_ble_eq_true rfl) dX9_init_249 (fun H locs hw => ?_)
  have hw : Wd N D (Ky κ) A s (mwp κ [q, q1, q2, q3, q4, q5, q6, q7, q8, q9, q10, q11, q12, q13, q14, q15, q16, q17, q18, q19, q20, q21, q22, q23] 23) H locs := hw
  refine lv_aload_n X.1 X.2.1 dX9_init_252 rfl (lv_at hl 0 rfl) ?_
  refine lv_bipush (v := (60 : Int32)) X.1 X.2.1 dX9_init_253 (by decide) ?_
  refine r_newa (a0 := (60, .inl (fun _ => 0))) X hw 0 rfl rfl (fun _ h => by cases h) (X.2.2.2.2 _ (by decide +kernel)) (fun _ => rfl) (by decide) (by decide) (by decide) (Nat.le_of_ble_eq_true rfl) (Nat.le_of_ble_eq_true rfl) dX9_init_255 (fun q24 H hw => ?_)
  refine r_pfF (ty := (.array .int)) X inX9_init_X9 tyX9_ok nmX9 hmn hw 0 rfl rfl 35 (by decide) (X.2.2.2.2 (.fieldLink RX9 110 "TestHallModel" "wish" "[I") (by decide +kernel)) rfl rfl rfl (by decide +kernel) rfl rfl (Nat.le_of_ble_eq_true rfl) dX9_init_257 (fun H locs hw => ?_)
  have hw : Wd N D (Ky κ) A s (mwp κ [q, q1, q2, q3, q4, q5, q6, q7, q8, q9, q10, q11, q12, q13, q14, q15, q16, q17, q18, q19, q20, q21, q22, q23, q24] 24) H locs := hw
  refine lv_aload_n X.1 X.2.1 dX9_init_260 rfl (lv_at hl 0 rfl) ?_
  refine lv_bipush (v := (60 : Int32)) X.1 X.2.1 dX9_init_261 (by decide) ?_
  refine r_newa (a0 := (60, .inl (fun _ => 0))) X hw 1 rfl rfl (fun _ h => by cases h) (X.2.2.2.2 _ (by decide +kernel)) (fun _ => rfl) (by decide) (by decide) (by decide) (Nat.le_of_ble_eq_true rfl) (Nat.le_of_ble_eq_true rfl) dX9_init_263 (fun q25 H hw => ?_)
  refine r_pfF (ty := (.array .boolean)) X inX9_init_X9 tyX9_ok nmX9 hmn hw 0 rfl rfl 36 (by decide) (X.2.2.2.2 (.fieldLink RX9 113 "TestHallModel" "isSooner" "[Z") (by decide +kernel)) rfl rfl rfl (by decide +kernel) rfl rfl (Nat.le_of_ble_eq_true rfl) dX9_init_265 (fun H locs hw => ?_)
  have hw : Wd N D (Ky κ) A s (mwp κ [q, q1, q2, q3, q4, q5, q6, q7, q8, q9, q10, q11, q12, q13, q14, q15, q16, q17, q18, q19, q20, q21, q22, q23, q24, q25] 25) H locs := hw
  refine lv_aload_n X.1 X.2.1 dX9_init_268 rfl (lv_at hl 0 rfl) ?_
  refine lv_bipush (v := (60 : Int32)) X.1 X.2.1 dX9_init_269 (by decide) ?_
  refine r_newa (a0 := (60, .inl (fun _ => 0))) X hw 0 rfl rfl (fun _ h => by cases h) (X.2.2.2.2 _ (by decide +kernel)) (fun _ => rfl) (by decide) (by decide) (by decide) (Nat.le_of_ble_eq_true rfl) (Nat.le_of_ble_eq_true rfl) dX9_init_271 (fun q26 H hw => ?_)
  refine r_pfF (ty := (.array .int)) X inX9_init_X9 tyX9_ok nmX9 hmn hw 0 rfl rfl 37 (by decide) (X.2.2.2.2 (.fieldLink RX9 116 "TestHallModel" "came" "[I") (by decide +kernel)) rfl rfl rfl (by decide +kernel) rfl rfl (Nat.le_of_ble_eq_true rfl) dX9_init_273 (fun H locs hw => ?_)
  have hw : Wd N D (Ky κ) A s (mwp κ [q, q1, q2, q3, q4, q5, q6, q7, q8, q9, q10, q11, q12, q13, q14, q15, q16, q17, q18, q19, q20, q21, q22, q23, q24, q25, q26] 26) H locs := hw
  refine lv_aload_n X.1 X.2.1 dX9_init_276 rfl (lv_at hl 0 rfl) ?_
  refine lv_bipush (v := (60 : Int32)) X.1 X.2.1 dX9_init_277 (by decide) ?_
  refine r_newa (a0 := (60, .inl (fun _ => 0))) X hw 0 rfl rfl (fun _ h => by cases h) (X.2.2.2.2 _ (by decide +kernel)) (fun _ => rfl) (by decide) (by decide) (by decide) (Nat.le_of_ble_eq_true rfl) (Nat.le_of_ble_eq_true rfl) dX9_init_279 (fun q27 H hw => ?_)
  refine r_pfF (ty := (.array .int)) X inX9_init_X9 tyX9_ok nmX9 hmn hw 0 rfl rfl 38 (by decide) (X.2.2.2.2 (.fieldLink RX9 119 "TestHallModel" "state" "[I") (by decide +kernel)) rfl rfl rfl (by decide +kernel) rfl rfl (Nat.le_of_ble_eq_true rfl) dX9_init_281 (fun H locs hw => ?_)
  have hw : Wd N D (Ky κ) A s (mwp κ [q, q1, q2, q3, q4, q5, q6, q7, q8, q9, q10, q11, q12, q13, q14, q15, q16, q17, q18, q19, q20, q21, q22, q23, q24, q25, q26, q27] 27) H locs := hw
  refine lv_aload_n X.1 X.2.1 dX9_init_284 rfl (lv_at hl 0 rfl) ?_
  refine lv_bipush (v := (60 : Int32)) X.1 X.2.1 dX9_init_285 (by decide) ?_
  refine r_newa (a0 := (60, .inl (fun _ => 0))) X hw 0 rfl rfl (fun _ h => by cases h) (X.2.2.2.2 _ (by decide +kernel)) (fun _ => rfl) (by decide) (by decide) (by decide) (Nat.le_of_ble_eq_true rfl) (Nat.le_of_ble_eq_true rfl) dX9_init_287 (fun q28 H hw => ?_)
  refine r_pfF (ty := (.array .int)) X inX9_init_X9 tyX9_ok nmX9 hmn hw 0 rfl rfl 39 (by decide) (X.2.2.2.2 (.fieldLink RX9 122 "TestHallModel" "slot" "[I") (by decide +kernel)) rfl rfl rfl (by decide +kernel) rfl rfl (Nat.le_of_ble_eq_true rfl) dX9_init_289 (fun H locs hw => ?_)
  have hw : Wd N D (Ky κ) A s (mwp κ [q, q1, q2, q3, q4, q5, q6, q7, q8, q9, q10, q11, q12, q13, q14, q15, q16, q17, q18, q19, q20, q21, q22, q23, q24, q25, q26, q27, q28] 28) H locs := hw
  refine lv_aload_n X.1 X.2.1 dX9_init_292 rfl (lv_at hl 0 rfl) ?_
  refine lv_bipush (v := (60 : Int32)) X.1 X.2.1 dX9_init_293 (by decide) ?_
  refine r_newa (a0 := (60, .inl (fun _ => 0))) X hw 0 rfl rfl (fun _ h => by cases h) (X.2.2.2.2 _ (by decide +kernel)) (fun _ => rfl) (by decide) (by decide) (by decide) (Nat.le_of_ble_eq_true rfl) (Nat.le_of_ble_eq_true rfl) dX9_init_295 (fun q29 H hw => ?_)
  refine r_pfF (ty := (.array .int)) X inX9_init_X9 tyX9_ok nmX9 hmn hw 0 rfl rfl 40 (by decide) (X.2.2.2.2 (.fieldLink RX9 125 "TestHallModel" "tries" "[I") (by decide +kernel)) rfl rfl rfl (by decide +kernel) rfl rfl (Nat.le_of_ble_eq_true rfl) dX9_init_297 (fun H locs hw => ?_)
  have hw : Wd N D (Ky κ) A s (mwp κ [q, q1, q2, q3, q4, q5, q6, q7, q8, q9, q10, q11, q12, q13, q14, q15, q16, q17, q18, q19, q20, q21, q22, q23, q24, q25, q26, q27, q28, q29] 29) H locs := hw
  refine lv_aload_n X.1 X.2.1 dX9_init_300 rfl (lv_at hl 0 rfl) ?_
  refine lv_bipush (v := (60 : Int32)) X.1 X.2.1 dX9_init_301 (by decide) ?_
  refine r_newa (a0 := (60, .inl (fun _ => 0))) X hw 0 rfl rfl (fun _ h => by cases h) (X.2.2.2.2 _ (by decide +kernel)) (fun _ => rfl) (by decide) (by decide) (by decide) (Nat.le_of_ble_eq_true rfl) (Nat.le_of_ble_eq_true rfl) dX9_init_303 (fun q30 H hw => ?_)
  refine r_pfF (ty := (.array .int)) X inX9_init_X9 tyX9_ok nmX9 hmn hw 0 rfl rfl 41 (by decide) (X.2.2.2.2 (.fieldLink RX9 128 "TestHallModel" "ups" "[I") (by decide +kernel)) rfl rfl rfl (by decide +kernel) rfl rfl (Nat.le_of_ble_eq_true rfl) dX9_init_305 (fun H locs hw => ?_)
  have hw : Wd N D (Ky κ) A s (mwp κ [q, q1, q2, q3, q4, q5, q6, q7, q8, q9, q10, q11, q12, q13, q14, q15, q16, q17, q18, q19, q20, q21, q22, q23, q24, q25, q26, q27, q28, q29, q30] 30) H locs := hw
  refine lv_aload_n X.1 X.2.1 dX9_init_308 rfl (lv_at hl 0 rfl) ?_
  refine lv_bipush (v := (60 : Int32)) X.1 X.2.1 dX9_init_309 (by decide) ?_
  refine r_newa (a0 := (60, .inl (fun _ => 0))) X hw 0 rfl rfl (fun _ h => by cases h) (X.2.2.2.2 _ (by decide +kernel)) (fun _ => rfl) (by decide) (by decide) (by decide) (Nat.le_of_ble_eq_true rfl) (Nat.le_of_ble_eq_true rfl) dX9_init_311 (fun q31 H hw => ?_)
  refine r_pfF (ty := (.array .int)) X inX9_init_X9 tyX9_ok nmX9 hmn hw 0 rfl rfl 43 (by decide) (X.2.2.2.2 (.fieldLink RX9 131 "TestHallModel" "rank" "[I") (by decide +kernel)) rfl rfl rfl (by decide +kernel) rfl rfl (Nat.le_of_ble_eq_true rfl) dX9_init_313 (fun H locs hw => ?_)
  have hw : Wd N D (Ky κ) A s (mwp κ [q, q1, q2, q3, q4, q5, q6, q7, q8, q9, q10, q11, q12, q13, q14, q15, q16, q17, q18, q19, q20, q21, q22, q23, q24, q25, q26, q27, q28, q29, q30, q31] 31) H locs := hw
  refine lv_aload_n X.1 X.2.1 dX9_init_316 rfl (lv_at hl 0 rfl) ?_
  refine lv_bipush (v := (60 : Int32)) X.1 X.2.1 dX9_init_317 (by decide) ?_
  refine r_newa (a0 := (60, .inl (fun _ => 0))) X hw 1 rfl rfl (fun _ h => by cases h) (X.2.2.2.2 _ (by decide +kernel)) (fun _ => rfl) (by decide) (by decide) (by decide) (Nat.le_of_ble_eq_true rfl) (Nat.le_of_ble_eq_true rfl) dX9_init_319 (fun q32 H hw => ?_)
  refine r_pfF (ty := (.array .boolean)) X inX9_init_X9 tyX9_ok nmX9 hmn hw 0 rfl rfl 44 (by decide) (X.2.2.2.2 (.fieldLink RX9 134 "TestHallModel" "isDealt" "[Z") (by decide +kernel)) rfl rfl rfl (by decide +kernel) rfl rfl (Nat.le_of_ble_eq_true rfl) dX9_init_321 (fun H locs hw => ?_)
  have hw : Wd N D (Ky κ) A s (mwp κ [q, q1, q2, q3, q4, q5, q6, q7, q8, q9, q10, q11, q12, q13, q14, q15, q16, q17, q18, q19, q20, q21, q22, q23, q24, q25, q26, q27, q28, q29, q30, q31, q32] 32) H locs := hw
  refine lv_aload_n X.1 X.2.1 dX9_init_324 rfl (lv_at hl 0 rfl) ?_
  refine lv_bipush (v := (24 : Int32)) X.1 X.2.1 dX9_init_325 (by decide) ?_
  refine r_newa (a0 := (24, .inl (fun _ => 0))) X hw 0 rfl rfl (fun _ h => by cases h) (X.2.2.2.2 _ (by decide +kernel)) (fun _ => rfl) (by decide) (by decide) (by decide) (Nat.le_of_ble_eq_true rfl) (Nat.le_of_ble_eq_true rfl) dX9_init_327 (fun q33 H hw => ?_)
  refine r_pfF (ty := (.array .int)) X inX9_init_X9 tyX9_ok nmX9 hmn hw 0 rfl rfl 46 (by decide) (X.2.2.2.2 (.fieldLink RX9 137 "TestHallModel" "endA" "[I") (by decide +kernel)) rfl rfl rfl (by decide +kernel) rfl rfl (Nat.le_of_ble_eq_true rfl) dX9_init_329 (fun H locs hw => ?_)
  have hw : Wd N D (Ky κ) A s (mwp κ [q, q1, q2, q3, q4, q5, q6, q7, q8, q9, q10, q11, q12, q13, q14, q15, q16, q17, q18, q19, q20, q21, q22, q23, q24, q25, q26, q27, q28, q29, q30, q31, q32, q33] 33) H locs := hw
  refine lv_aload_n X.1 X.2.1 dX9_init_332 rfl (lv_at hl 0 rfl) ?_
  refine lv_bipush (v := (24 : Int32)) X.1 X.2.1 dX9_init_333 (by decide) ?_
  refine r_newa (a0 := (24, .inl (fun _ => 0))) X hw 0 rfl rfl (fun _ h => by cases h) (X.2.2.2.2 _ (by decide +kernel)) (fun _ => rfl) (by decide) (by decide) (by decide) (Nat.le_of_ble_eq_true rfl) (Nat.le_of_ble_eq_true rfl) dX9_init_335 (fun q34 H hw => ?_)
  refine r_pfF (ty := (.array .int)) X inX9_init_X9 tyX9_ok nmX9 hmn hw 0 rfl rfl 47 (by decide) (X.2.2.2.2 (.fieldLink RX9 140 "TestHallModel" "endB" "[I") (by decide +kernel)) rfl rfl rfl (by decide +kernel) rfl rfl (Nat.le_of_ble_eq_true rfl) dX9_init_337 (fun H locs hw => ?_)
  have hw : Wd N D (Ky κ) A s (mwp κ [q, q1, q2, q3, q4, q5, q6, q7, q8, q9, q10, q11, q12, q13, q14, q15, q16, q17, q18, q19, q20, q21, q22, q23, q24, q25, q26, q27, q28, q29, q30, q31, q32, q33, q34] 34) H locs := hw
  refine lv_aload_n X.1 X.2.1 dX9_init_340 rfl (lv_at hl 0 rfl) ?_
  refine lv_bipush (v := (24 : Int32)) X.1 X.2.1 dX9_init_341 (by decide) ?_
  refine r_newa (a0 := (24, .inl (fun _ => 0))) X hw 0 rfl rfl (fun _ h => by cases h) (X.2.2.2.2 _ (by decide +kernel)) (fun _ => rfl) (by decide) (by decide) (by decide) (Nat.le_of_ble_eq_true rfl) (Nat.le_of_ble_eq_true rfl) dX9_init_343 (fun q35 H hw => ?_)
  refine r_pfF (ty := (.array .int)) X inX9_init_X9 tyX9_ok nmX9 hmn hw 0 rfl rfl 48 (by decide) (X.2.2.2.2 (.fieldLink RX9 143 "TestHallModel" "minutes" "[I") (by decide +kernel)) rfl rfl rfl (by decide +kernel) rfl rfl (Nat.le_of_ble_eq_true rfl) dX9_init_345 (fun H locs hw => ?_)
  have hw : Wd N D (Ky κ) A s (mwp κ [q, q1, q2, q3, q4, q5, q6, q7, q8, q9, q10, q11, q12, q13, q14, q15, q16, q17, q18, q19, q20, q21, q22, q23, q24, q25, q26, q27, q28, q29, q30, q31, q32, q33, q34, q35] 35) H locs := hw
  refine lv_aload_n X.1 X.2.1 dX9_init_348 rfl (lv_at hl 0 rfl) ?_
  refine lv_bipush (v := (24 : Int32)) X.1 X.2.1 dX9_init_349 (by decide) ?_
  refine r_newa (a0 := (24, .inl (fun _ => 0))) X hw 0 rfl rfl (fun _ h => by cases h) (X.2.2.2.2 _ (by decide +kernel)) (fun _ => rfl) (by decide) (by decide) (by decide) (Nat.le_of_ble_eq_true rfl) (Nat.le_of_ble_eq_true rfl) dX9_init_351 (fun q36 H hw => ?_)
  refine r_pfF (ty := (.array .int)) X inX9_init_X9 tyX9_ok nmX9 hmn hw 0 rfl rfl 49 (by decide) (X.2.2.2.2 (.fieldLink RX9 146 "TestHallModel" "marks" "[I") (by decide +kernel)) rfl rfl rfl (by decide +kernel) rfl rfl (Nat.le_of_ble_eq_true rfl) dX9_init_353 (fun H locs hw => ?_)
  have hw : Wd N D (Ky κ) A s (mwp κ [q, q1, q2, q3, q4, q5, q6, q7, q8, q9, q10, q11, q12, q13, q14, q15, q16, q17, q18, q19, q20, q21, q22, q23, q24, q25, q26, q27, q28, q29, q30, q31, q32, q33, q34, q35, q36] 36) H locs := hw
  refine lv_aload_n X.1 X.2.1 dX9_init_356 rfl (lv_at hl 0 rfl) ?_
  refine lv_bipush (v := (24 : Int32)) X.1 X.2.1 dX9_init_357 (by decide) ?_
  refine r_newa (a0 := (24, .inl (fun _ => 0))) X hw 1 rfl rfl (fun _ h => by cases h) (X.2.2.2.2 _ (by decide +kernel)) (fun _ => rfl) (by decide) (by decide) (by decide) (Nat.le_of_ble_eq_true rfl) (Nat.le_of_ble_eq_true rfl) dX9_init_359 (fun q37 H hw => ?_)
  refine r_pfF (ty := (.array .boolean)) X inX9_init_X9 tyX9_ok nmX9 hmn hw 0 rfl rfl 50 (by decide) (X.2.2.2.2 (.fieldLink RX9 149 "TestHallModel" "isClosed" "[Z") (by decide +kernel)) rfl rfl rfl (by decide +kernel) rfl rfl (Nat.le_of_ble_eq_true rfl) dX9_init_361 (fun H locs hw => ?_)
  have hw : Wd N D (Ky κ) A s (mwp κ [q, q1, q2, q3, q4, q5, q6, q7, q8, q9, q10, q11, q12, q13, q14, q15, q16, q17, q18, q19, q20, q21, q22, q23, q24, q25, q26, q27, q28, q29, q30, q31, q32, q33, q34, q35, q36, q37] 37) H locs := hw
  refine lv_aload_n X.1 X.2.1 dX9_init_364 rfl (lv_at hl 0 rfl) ?_
  refine lv_bipush (v := (24 : Int32)) X.1 X.2.1 dX9_init_365 (by decide) ?_
  refine r_newa (a0 := (24, .inl (fun _ => 0))) X hw 1 rfl rfl (fun _ h => by cases h) (X.2.2.2.2 _ (by decide +kernel)) (fun _ => rfl) (by decide) (by decide) (by decide) (Nat.le_of_ble_eq_true rfl) (Nat.le_of_ble_eq_true rfl) dX9_init_367 (fun q38 H hw => ?_)
  refine r_pfF (ty := (.array .boolean)) X inX9_init_X9 tyX9_ok nmX9 hmn hw 0 rfl rfl 51 (by decide) (X.2.2.2.2 (.fieldLink RX9 152 "TestHallModel" "isGone" "[Z") (by decide +kernel)) rfl rfl rfl (by decide +kernel) rfl rfl (Nat.le_of_ble_eq_true rfl) dX9_init_369 (fun H locs hw => ?_)
  have hw : Wd N D (Ky κ) A s (mwp κ [q, q1, q2, q3, q4, q5, q6, q7, q8, q9, q10, q11, q12, q13, q14, q15, q16, q17, q18, q19, q20, q21, q22, q23, q24, q25, q26, q27, q28, q29, q30, q31, q32, q33, q34, q35, q36, q37, q38] 38) H locs := hw
  refine lv_aload_n X.1 X.2.1 dX9_init_372 rfl (lv_at hl 0 rfl) ?_
  refine lv_bipush (v := (8 : Int32)) X.1 X.2.1 dX9_init_373 (by decide) ?_
  refine r_newa (a0 := (8, .inl (fun _ => 0))) X hw 0 rfl rfl (fun _ h => by cases h) (X.2.2.2.2 _ (by decide +kernel)) (fun _ => rfl) (by decide) (by decide) (by decide) (Nat.le_of_ble_eq_true rfl) (Nat.le_of_ble_eq_true rfl) dX9_init_375 (fun q39 H hw => ?_)
  refine r_pfF (ty := (.array .int)) X inX9_init_X9 tyX9_ok nmX9 hmn hw 0 rfl rfl 52 (by decide) (X.2.2.2.2 (.fieldLink RX9 155 "TestHallModel" "way" "[I") (by decide +kernel)) rfl rfl rfl (by decide +kernel) rfl rfl (Nat.le_of_ble_eq_true rfl) dX9_init_377 (fun H locs hw => ?_)
  have hw : Wd N D (Ky κ) A s (mwp κ [q, q1, q2, q3, q4, q5, q6, q7, q8, q9, q10, q11, q12, q13, q14, q15, q16, q17, q18, q19, q20, q21, q22, q23, q24, q25, q26, q27, q28, q29, q30, q31, q32, q33, q34, q35, q36, q37, q38, q39] 39) H locs := hw
  refine lv_aload_n X.1 X.2.1 dX9_init_380 rfl (lv_at hl 0 rfl) ?_
  refine lv_bipush (v := (8 : Int32)) X.1 X.2.1 dX9_init_381 (by decide) ?_
  refine r_newa (a0 := (8, .inl (fun _ => 0))) X hw 0 rfl rfl (fun _ h => by cases h) (X.2.2.2.2 _ (by decide +kernel)) (fun _ => rfl) (by decide) (by decide) (by decide) (Nat.le_of_ble_eq_true rfl) (Nat.le_of_ble_eq_true rfl) dX9_init_383 (fun q40 H hw => ?_)
  refine r_pfF (ty := (.array .int)) X inX9_init_X9 tyX9_ok nmX9 hmn hw 0 rfl rfl 54 (by decide) (X.2.2.2.2 (.fieldLink RX9 158 "TestHallModel" "drawn" "[I") (by decide +kernel)) rfl rfl rfl (by decide +kernel) rfl rfl (Nat.le_of_ble_eq_true rfl) dX9_init_385 (fun H locs hw => ?_)
  have hw : Wd N D (Ky κ) A s (mwp κ [q, q1, q2, q3, q4, q5, q6, q7, q8, q9, q10, q11, q12, q13, q14, q15, q16, q17, q18, q19, q20, q21, q22, q23, q24, q25, q26, q27, q28, q29, q30, q31, q32, q33, q34, q35, q36, q37, q38, q39, q40] 40) H locs := hw
  have hw : Wd N D (Ky κ) A s (mw κ (fun k => [q, q1, q2, q3, q4, q5, q6, q7, q8, q9, q10, q11, q12, q13, q14, q15, q16, q17, q18, q19, q20, q21, q22, q23, q24, q25, q26, q27, q28, q29, q30, q31, q32, q33, q34, q35, q36, q37, q38, q39, q40].getD k 0) mini) H locs := hw
  refine lv_iconst (v := nI 0) X.1 X.2.1 dX9_init_388 (by decide) ?_
  refine lv_istore_n (lv' := [(1, .int (nI 0)), (0, .ref q)]) X.1 X.2.1 dX9_init_389 rfl hl (by decide) rfl (fun ls hl => ?_)
  exact X9_init_loop (η := fun k => [q, q1, q2, q3, q4, q5, q6, q7, q8, q9, q10, q11, q12, q13, q14, q15, q16, q17, q18, q19, q20, q21, q22, q23, q24, q25, q26, q27, q28, q29, q30, q31, q32, q33, q34, q35, q36, q37, q38, q39, q40].getD k 0) rfl X hr hlk 480 0 mini _ _ _ rfl ⟨fun _ => rfl, fun _ _ _ => rfl, fun j hj => absurd hj (Nat.not_lt_zero j), rfl⟩ hw (lv_sub hl [1, 0] rfl)
