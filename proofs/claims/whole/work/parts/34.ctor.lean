section Prm
variable {s : State} {H : Heap} {locs : List Loc} {N : (Nat → Prop) → State → Prop} {D : va_G} {A : Nat → Prop} {tys : List (ClassId × FieldType)}
theorem Wd_perm {w1 w2 t : va_W} (is : List Nat) (hn : va_nd is = true) (hs : is.map (fun i => w1[i]?) = w2.map some) (hw : Wd N D tys A s (w1 ++ t) H locs) : Wd N D tys A s (w2 ++ t) H locs := by
  obtain ⟨hP, hD, hS, hK, hA, hN⟩ := hw
  have la : ∀ (k : Nat) (q : Nat × va_E), w1[k]? = some q → (w1 ++ t)[k]? = some q := fun k q h => by rw [List.getElem?_append_left (List.getElem?_eq_some_iff.mp h).1]; exact h
  have lt : ∀ (k : Nat) (q : Nat × va_E), t[k]? = some q → (w1 ++ t)[w1.length + k]? = some q := fun k q h => by rw [List.getElem?_append_right (by omega), Nat.add_sub_cancel_left]; exact h
  have key : ∀ (k : Nat) (q : Nat × va_E), w2[k]? = some q → ∃ i : Nat, w1[i]? = some q := by
    intro k q hk
    have h1 : (is.map (fun i => w1[i]?))[k]? = some (some q) := by rw [hs, List.getElem?_map, hk]; rfl
    rw [List.getElem?_map] at h1
    cases hi : is[k]? with
    | none => rw [hi] at h1; cases h1
    | some i => rw [hi] at h1; exact ⟨i, Option.some.inj h1⟩
  have hD1 : va_D A w1 := ⟨fun i j x y hx hy hxy => hD.1 i j x y (la i x hx) (la j y hy) hxy, fun k q hk => hD.2 k q (la k q hk)⟩
  have hDt : va_D A t := ⟨fun i j x y hx hy hxy => by have := hD.1 _ _ x y (lt i x hx) (lt j y hy) hxy; omega, fun k q hk => hD.2 _ q (lt k q hk)⟩
  refine ⟨va_P.app (fun k q hk => ?_) (fun k q hk => hP _ q (lt k q hk)), va_D.app (hD1.sub is hn hs) hDt (fun i j x y hx hy hxy => ?_), hS, hK, hA, hN⟩
  · obtain ⟨i, hi⟩ := key k q hk
    exact hP i q (la i q hi)
  · obtain ⟨i', hi⟩ := key i x hx
    have h1 := hD.1 _ _ x y (la i' x hi) (lt j y hy) hxy
    have h2 := (List.getElem?_eq_some_iff.mp hi).1
    omega
end Prm
theorem inX8_init_X0 : ∀ w ∈ wsX00, w ∈ wsX8_init := fun w h => List.mem_cons_of_mem _ (List.mem_append_left _ (List.mem_append_left _ (List.mem_append_left _ (List.mem_append_left _ (List.mem_append_left _ (List.mem_append_left _ (List.mem_append_right _ h)))))))
theorem inX8_init_X8 : ∀ w ∈ wsX80, w ∈ wsX8_init := fun w h => List.mem_cons_of_mem _ (List.mem_append_left _ (List.mem_append_left _ (List.mem_append_left _ (List.mem_append_left _ (List.mem_append_left _ (List.mem_append_right _ h))))))
theorem inX8_init_X2 : ∀ w ∈ wsX20, w ∈ wsX8_init := fun w h => List.mem_cons_of_mem _ (List.mem_append_left _ (List.mem_append_left _ (List.mem_append_left _ (List.mem_append_left _ (List.mem_append_right _ h)))))
theorem inX8_init_X4 : ∀ w ∈ wsX40, w ∈ wsX8_init := fun w h => List.mem_cons_of_mem _ (List.mem_append_left _ (List.mem_append_left _ (List.mem_append_left _ (List.mem_append_right _ h))))
theorem inX8_init_X6 : ∀ w ∈ wsX60, w ∈ wsX8_init := fun w h => List.mem_cons_of_mem _ (List.mem_append_left _ (List.mem_append_left _ (List.mem_append_right _ h)))
theorem inX8_init_X3 : ∀ w ∈ wsX30, w ∈ wsX8_init := fun w h => List.mem_cons_of_mem _ (List.mem_append_left _ (List.mem_append_right _ h))
theorem inX8_init_X5 : ∀ w ∈ wsX50, w ∈ wsX8_init := fun w h => List.mem_cons_of_mem _ (List.mem_append_right _ h)
abbrev rmX8_init : Room := { frames := 3, cells := 48, slots := 6980, locals := 120 }
def cInit (M : Sg) : Prop := (∀ k, gI M k = 0) ∧ (∀ a, a ≠ 0 → a ≠ 2 → ∀ j, gA M a j = 0) ∧ (∀ j, j < 480 → gA M 0 j = -1) ∧ ∀ j, j < 2880 → gA M 2 j = -1
def cM0 (f g : Nat → Int32) : Sg := (fun _ => 0, fun a => if a = 0 then f else if a = 2 then g else fun _ => 0, fun _ _ => 0)
theorem x8_perm {N : (Nat → Prop) → State → Prop} {D : va_G} {tys : List (ClassId × FieldType)} {A : Nat → Prop} {s : State} {H : Heap} {locs : List Loc} {c0 k0 k1 k2 k3 k4 k5 L_ l0 l1 l2 F_ t0 t1 r0 r1 r2 s0_ s1_ s2_ s3_ s4_ s5_ o_ z1 z2 z3 a0 a1 a2 a3 a4 b0 b1 b2 b3 b4 : Nat × va_E} {rows : va_W} (hw : Wd N D tys A s ((((((((([c0] ++ [k0, k1, k2, k3, k4, k5]) ++ [L_]) ++ [l0, l1, l2]) ++ [F_]) ++ [t0, t1]) ++ [r0, r1, r2]) ++ ((((([s0_, s1_, s2_, s3_, s4_, s5_] ++ [o_]) ++ rows) ++ [z1]) ++ [z2]) ++ [z3])) ++ [a0, a1, a2, a3, a4]) ++ [b0, b1, b2, b3, b4]) H locs) : Wd N D tys A s ([c0, k0, l0, t0, r0, s0_, a0, b0, L_, k1, k2, k3, k4, k5, l1, l2, F_, t1, a1, a2, a3, a4, b1, b2, b3, b4, r1, r2, s1_, s2_, s3_, s4_, s5_, z1, z2, z3, o_] ++ rows) H locs := by
  have e : (((((((([c0] ++ [k0, k1, k2, k3, k4, k5]) ++ [L_]) ++ [l0, l1, l2]) ++ [F_]) ++ [t0, t1]) ++ [r0, r1, r2]) ++ ((((([s0_, s1_, s2_, s3_, s4_, s5_] ++ [o_]) ++ rows) ++ [z1]) ++ [z2]) ++ [z3])) ++ [a0, a1, a2, a3, a4]) ++ [b0, b1, b2, b3, b4] = ([c0, k0, k1, k2, k3, k4, k5, L_, l0, l1, l2, F_, t0, t1, r0, r1, r2, s0_, s1_, s2_, s3_, s4_, s5_, o_] ++ rows) ++ [z1, z2, z3, a0, a1, a2, a3, a4, b0, b1, b2, b3, b4] := by simp
  rw [e] at hw
  obtain ⟨hP, hD, hS, hK, hA, hN⟩ := hw
  have hw2 : Wd N D tys A s (([c0, k0, k1, k2, k3, k4, k5, L_, l0, l1, l2, F_, t0, t1, r0, r1, r2, s0_, s1_, s2_, s3_, s4_, s5_, o_] ++ [z1, z2, z3, a0, a1, a2, a3, a4, b0, b1, b2, b3, b4]) ++ rows) H locs := ⟨hP.swap, hD.swap, hS, hK, hA, hN⟩
  exact Wd_perm (w1 := [c0, k0, k1, k2, k3, k4, k5, L_, l0, l1, l2, F_, t0, t1, r0, r1, r2, s0_, s1_, s2_, s3_, s4_, s5_, o_] ++ [z1, z2, z3, a0, a1, a2, a3, a4, b0, b1, b2, b3, b4]) [0, 1, 8, 12, 14, 17, 27, 32, 7, 2, 3, 4, 5, 6, 9, 10, 11, 13, 28, 29, 30, 31, 33, 34, 35, 36, 15, 16, 18, 19, 20, 21, 22, 24, 25, 26, 23] (by decide) rfl hw2
theorem cM0_init {f g : Nat → Int32} (hf : ∀ j, j < 480 → f j = -1) (hg : ∀ j, j < 2880 → g j = -1) : cInit (cM0 f g) := by
  refine ⟨fun _ => rfl, fun a h1 h2 j => ?_, hf, hg⟩
  show (if a = 0 then f else if a = 2 then g else fun _ => 0) j = 0
  rw [if_neg h1, if_neg h2]
def et8 (l : List Nat) (r : Nat → Nat) (k : Nat) : Nat := if 37 ≤ k then r (k - 37) else l.getD k 0
theorem et8_row {l : List Nat} {r : Nat → Nat} (i : Nat) : et8 l r (37 + i) = r i := by
  unfold et8
  rw [if_pos (by omega), Nat.add_sub_cancel_left]
theorem cw_start {κ : Nat → ClassId} {l : List Nat} {r : Nat → Nat} {f g : Nat → Int32} : cw κ (et8 l r) 0 (cM0 f g) = (((cfx κ (et8 l r) 0 (cM0 f g)).set 8 (et8 l r 8, .inl (κ 4, 60, .inr (.inr (.inr (.inr (fun _ => none))))))).set 36 (et8 l r 36, .inl (κ 5, 12, .inr (.inr (.inr (.inr (fun i => if i < 12 then some (r i) else none))))))) ++ mrow κ r := by
  have e1 : (fun i => if i < 0 then some (et8 l r (49 + i)) else none : Nat → Option Nat) = fun _ => none := funext fun i => if_neg (Nat.not_lt_zero i)
  have e2 : (fun i => if i < 12 then some (et8 l r (37 + i)) else none : Nat → Option Nat) = fun i => if i < 12 then some (r i) else none := funext fun i => by rw [et8_row]
  have e3 : (List.range 12).map (crw κ (et8 l r) (cM0 f g)) = mrow κ r := by
    unfold mrow
    apply List.map_congr_left
    intro i hi
    unfold crw
    rw [et8_row]
    have : gA (cM0 f g) (30 + i) = fun _ => 0 := by
      show (if 30 + i = 0 then f else if 30 + i = 2 then g else fun _ => 0) = _
      rw [if_neg (by omega), if_neg (by omega)]
    rw [this]
  unfold cw cfx
  rw [e1, e2, e3]
  simp
set_option maxHeartbeats 8000000 in
set_option maxRecDepth 100000 in
theorem kX8_init {D : va_G} {κ : Nat → ClassId} {l : Launch} {q : Nat} {σ : (Nat → Nat) × (Nat → Nat)}  : Kc (cM σ) D (Ky κ) l yX8_init wsX8_init rmX8_init [.ref q] [(q, .inr (7, [.null, .null, .null, .null, .null, .null, .null, .null, .null, .int 0]))] (fun u : (Nat → Nat) × Sg => cw κ u.1 0 u.2) (fun u => u.1 0 = q ∧ cInit u.2) 48 6980 := by
  refine ofW_c (cc := cX8_init) (maxL := 1) (by decide) rfl (Nat.le_of_ble_eq_true rfl) ?_
  intro p e s m args below meth c A ls X hr hlk hmn hw hl
  have hl : lv_has ls 1 [(0, .ref q)] := hl
  refine lv_aload_n X.1 X.2.1 dX8_init_0 rfl (lv_at hl 0 rfl) ?_
  refine r_oinit X hl.1 (X.2.2.2.2 _ (by decide +kernel)) (X.2.2.2.2 _ (by decide +kernel)) (X.2.2.2.2 _ (by decide +kernel)) (Nat.le_of_ble_eq_true rfl) (Nat.le_of_ble_eq_true rfl) dX8_init_1 ?_
  refine lv_aload_n X.1 X.2.1 dX8_init_4 rfl (lv_at hl 0 rfl) ?_
  refine r_new (ci := 0) (fs := [.null, .null, .null, .null, .null, .int 0, .int 0, .int 0, .int 0]) (C := RX0) (T := TX0) (NN := 9) X hw inX8_init_X0 tyX0_ok (X.2.2.2.2 _ (by decide +kernel)) (X.2.2.2.2 _ (by decide +kernel)) (X.2.2.2.2 _ (by decide +kernel)) rfl (fun j hj => by rcases (show j = 0 ∨ j = 1 ∨ j = 2 ∨ j = 3 ∨ j = 4 ∨ j = 5 ∨ j = 6 ∨ j = 7 ∨ j = 8 by omega) with rfl | rfl | rfl | rfl | rfl | rfl | rfl | rfl | rfl <;> rfl) (Nat.le_of_ble_eq_true rfl) (Nat.le_of_ble_eq_true rfl) dX8_init_5 (fun q1 H hw => ?_)
  refine lv_dup X.1 X.2.1 dX8_init_8 rfl ?_
  refine r_ctor (As := []) (rest := [.ref q1, .ref q]) X cM_ok (kX0_init cM_ok) (cwI 0 X.2.2.2.2 gX8_init_X0_init rfl rfl rfl (X.2.2.2.2 _ (by decide +kernel)) (X.2.2.2.2 _ (by decide +kernel)) (X.2.2.2.2 _ (by decide +kernel)) rfl (by decide +kernel) ⟨Nat.le_of_ble_eq_true rfl, Nat.le_of_ble_eq_true rfl⟩) hw rfl hl.1 rfl (Nat.le_of_ble_eq_true rfl) dX8_init_9 ⟨Nat.le_of_ble_eq_true rfl, Nat.le_of_ble_eq_true rfl⟩ (fun u1 H locs hu1 hw => ?_)
  refine r_pfF (ty := (.object "TestHall$Calendar")) X inX8_init_X8 tyX8_ok nmX8 hmn hw 0 rfl rfl 0 (by decide) (X.2.2.2.2 (.fieldLink RX8 12 "TestHall" "calendar" "LTestHall$Calendar;") (by decide +kernel)) rfl rfl rfl (by decide +kernel) rfl rfl (Nat.le_of_ble_eq_true rfl) dX8_init_12 (fun H locs hw => ?_)
  have hw : Wd (cM σ) D (Ky κ) A s ([(q, .inr (7, [.ref q1, .null, .null, .null, .null, .null, .null, .null, .null, .int 0]))] ++ wcX0 κ q1 u1) H locs := hw
  refine lv_aload_n X.1 X.2.1 dX8_init_15 rfl (lv_at hl 0 rfl) ?_
  refine lv_bipush (v := (60 : Int32)) X.1 X.2.1 dX8_init_16 (by decide) ?_
  refine r_newq (N' := 60) X hw (X.2.2.2.2 _ (by decide +kernel)) hw.2.2.2.2.2.2.1 (by decide) (by decide) (by decide) (Nat.le_of_ble_eq_true rfl) (Nat.le_of_ble_eq_true rfl) dX8_init_18 (fun q2 H hw => ?_)
  refine r_pfF (ty := (.array (.object "TestHall$Learner"))) X inX8_init_X8 tyX8_ok nmX8 hmn hw 0 rfl rfl 1 (by decide) (X.2.2.2.2 (.fieldLink RX8 18 "TestHall" "learners" "[LTestHall$Learner;") (by decide +kernel)) rfl rfl rfl (by decide +kernel) rfl rfl (Nat.le_of_ble_eq_true rfl) dX8_init_21 (fun H locs hw => ?_)
  have hw : Wd (cM σ) D (Ky κ) A s (([(q, .inr (7, [.ref q1, .ref q2, .null, .null, .null, .null, .null, .null, .null, .int 0]))] ++ wcX0 κ q1 u1) ++ [(q2, .inl (κ 4, 60, .inr (.inr (.inr (.inr (fun _ => none))))))]) H locs := hw
  refine lv_aload_n X.1 X.2.1 dX8_init_24 rfl (lv_at hl 0 rfl) ?_
  refine r_new (ci := 2) (fs := [.null, .null, .int 0]) (C := RX2) (T := TX2) (NN := 3) X hw inX8_init_X2 tyX2_ok (X.2.2.2.2 _ (by decide +kernel)) (X.2.2.2.2 _ (by decide +kernel)) (X.2.2.2.2 _ (by decide +kernel)) rfl (fun j hj => by rcases (show j = 0 ∨ j = 1 ∨ j = 2 by omega) with rfl | rfl | rfl <;> rfl) (Nat.le_of_ble_eq_true rfl) (Nat.le_of_ble_eq_true rfl) dX8_init_25 (fun q3 H hw => ?_)
  refine lv_dup X.1 X.2.1 dX8_init_28 rfl ?_
  refine r_ctorN (As := []) (rest := [.ref q3, .ref q]) X cM_ok (kX2_init cM_ok) ⟨va_cnB 0 X.2.2.2.2 gX8_init_X2_init_n24 rfl rfl rfl (cN_X8_24 hw.2.2.2.2.2.1) (X.2.2.2.2 _ (by decide +kernel)) (by decide +kernel) ⟨Nat.le_of_ble_eq_true rfl, Nat.le_of_ble_eq_true rfl⟩, rfl, X.2.2.2.2 _ (by decide +kernel)⟩ hw rfl hl.1 rfl (Nat.le_of_ble_eq_true rfl) dX8_init_29 ⟨Nat.le_of_ble_eq_true rfl, Nat.le_of_ble_eq_true rfl⟩ (fun u3 H locs hu3 hw => ?_)
  refine r_pfF (ty := (.object "TestHall$Line")) X inX8_init_X8 tyX8_ok nmX8 hmn hw 0 rfl rfl 2 (by decide) (X.2.2.2.2 (.fieldLink RX8 25 "TestHall" "line" "LTestHall$Line;") (by decide +kernel)) rfl rfl rfl (by decide +kernel) rfl rfl (Nat.le_of_ble_eq_true rfl) dX8_init_32 (fun H locs hw => ?_)
  have hw : Wd (cM σ) D (Ky κ) A s ((([(q, .inr (7, [.ref q1, .ref q2, .ref q3, .null, .null, .null, .null, .null, .null, .int 0]))] ++ wcX0 κ q1 u1) ++ [(q2, .inl (κ 4, 60, .inr (.inr (.inr (.inr (fun _ => none))))))]) ++ wcX2 κ q3 u3) H locs := hw
  refine lv_aload_n X.1 X.2.1 dX8_init_35 rfl (lv_at hl 0 rfl) ?_
  refine lv_bipush (v := (6 : Int32)) X.1 X.2.1 dX8_init_36 (by decide) ?_
  refine r_newa (a0 := (6, .inl (fun _ => 0))) X hw 0 rfl rfl (fun _ h => by cases h) (X.2.2.2.2 _ (by decide +kernel)) (fun _ => rfl) (by decide) (by decide) (by decide) (Nat.le_of_ble_eq_true rfl) (Nat.le_of_ble_eq_true rfl) dX8_init_38 (fun q4 H hw => ?_)
  refine r_pfF (ty := (.array .int)) X inX8_init_X8 tyX8_ok nmX8 hmn hw 0 rfl rfl 3 (by decide) (X.2.2.2.2 (.fieldLink RX8 31 "TestHall" "facts" "[I") (by decide +kernel)) rfl rfl rfl (by decide +kernel) rfl rfl (Nat.le_of_ble_eq_true rfl) dX8_init_40 (fun H locs hw => ?_)
  have hw : Wd (cM σ) D (Ky κ) A s (((([(q, .inr (7, [.ref q1, .ref q2, .ref q3, .ref q4, .null, .null, .null, .null, .null, .int 0]))] ++ wcX0 κ q1 u1) ++ [(q2, .inl (κ 4, 60, .inr (.inr (.inr (.inr (fun _ => none))))))]) ++ wcX2 κ q3 u3) ++ [(q4, .inl (κ 0, 6, .inl (fun _ => 0)))]) H locs := hw
  refine lv_aload_n X.1 X.2.1 dX8_init_43 rfl (lv_at hl 0 rfl) ?_
  refine r_new (ci := 4) (fs := [.null, .int 0]) (C := RX4) (T := TX4) (NN := 2) X hw inX8_init_X4 tyX4_ok (X.2.2.2.2 _ (by decide +kernel)) (X.2.2.2.2 _ (by decide +kernel)) (X.2.2.2.2 _ (by decide +kernel)) rfl (fun j hj => by rcases (show j = 0 ∨ j = 1 by omega) with rfl | rfl <;> rfl) (Nat.le_of_ble_eq_true rfl) (Nat.le_of_ble_eq_true rfl) dX8_init_44 (fun q5 H hw => ?_)
  refine lv_dup X.1 X.2.1 dX8_init_47 rfl ?_
  refine r_ctorN (As := []) (rest := [.ref q5, .ref q]) X cM_ok (kX4_init cM_ok) ⟨va_cnB 0 X.2.2.2.2 gX8_init_X4_init_n37 rfl rfl rfl (cN_X8_37 hw.2.2.2.2.2.1) (X.2.2.2.2 _ (by decide +kernel)) (by decide +kernel) ⟨Nat.le_of_ble_eq_true rfl, Nat.le_of_ble_eq_true rfl⟩, rfl, X.2.2.2.2 _ (by decide +kernel)⟩ hw rfl hl.1 rfl (Nat.le_of_ble_eq_true rfl) dX8_init_48 ⟨Nat.le_of_ble_eq_true rfl, Nat.le_of_ble_eq_true rfl⟩ (fun u5 H locs hu5 hw => ?_)
  refine r_pfF (ty := (.object "TestHall$Tape")) X inX8_init_X8 tyX8_ok nmX8 hmn hw 0 rfl rfl 4 (by decide) (X.2.2.2.2 (.fieldLink RX8 38 "TestHall" "tape" "LTestHall$Tape;") (by decide +kernel)) rfl rfl rfl (by decide +kernel) rfl rfl (Nat.le_of_ble_eq_true rfl) dX8_init_51 (fun H locs hw => ?_)
  have hw : Wd (cM σ) D (Ky κ) A s ((((([(q, .inr (7, [.ref q1, .ref q2, .ref q3, .ref q4, .ref q5, .null, .null, .null, .null, .int 0]))] ++ wcX0 κ q1 u1) ++ [(q2, .inl (κ 4, 60, .inr (.inr (.inr (.inr (fun _ => none))))))]) ++ wcX2 κ q3 u3) ++ [(q4, .inl (κ 0, 6, .inl (fun _ => 0)))]) ++ wcX4 κ q5 u5) H locs := hw
  refine lv_aload_n X.1 X.2.1 dX8_init_54 rfl (lv_at hl 0 rfl) ?_
  refine r_new (ci := 6) (fs := [.null, .null, .int 0, .int 0, .int 0, .null, .int 0, .null]) (C := RX6) (T := TX6) (NN := 8) X hw inX8_init_X6 tyX6_ok (X.2.2.2.2 _ (by decide +kernel)) (X.2.2.2.2 _ (by decide +kernel)) (X.2.2.2.2 _ (by decide +kernel)) rfl (fun j hj => by rcases (show j = 0 ∨ j = 1 ∨ j = 2 ∨ j = 3 ∨ j = 4 ∨ j = 5 ∨ j = 6 ∨ j = 7 by omega) with rfl | rfl | rfl | rfl | rfl | rfl | rfl | rfl <;> rfl) (Nat.le_of_ble_eq_true rfl) (Nat.le_of_ble_eq_true rfl) dX8_init_55 (fun q6 H hw => ?_)
  refine lv_dup X.1 X.2.1 dX8_init_58 rfl ?_
  refine r_ctorN (As := []) (rest := [.ref q6, .ref q]) X cM_ok (kX6_init cM_ok) ⟨va_cnB 0 X.2.2.2.2 gX8_init_X6_init_n44 rfl rfl rfl (cN_X8_44 hw.2.2.2.2.2.1) (X.2.2.2.2 _ (by decide +kernel)) (by decide +kernel) ⟨Nat.le_of_ble_eq_true rfl, Nat.le_of_ble_eq_true rfl⟩, rfl, X.2.2.2.2 _ (by decide +kernel)⟩ hw rfl hl.1 rfl (Nat.le_of_ble_eq_true rfl) dX8_init_59 ⟨Nat.le_of_ble_eq_true rfl, Nat.le_of_ble_eq_true rfl⟩ (fun u6 H locs hu6 hw => ?_)
  refine r_pfF (ty := (.object "TestHall$TextReader")) X inX8_init_X8 tyX8_ok nmX8 hmn hw 0 rfl rfl 5 (by decide) (X.2.2.2.2 (.fieldLink RX8 45 "TestHall" "reader" "LTestHall$TextReader;") (by decide +kernel)) rfl rfl rfl (by decide +kernel) rfl rfl (Nat.le_of_ble_eq_true rfl) dX8_init_62 (fun H locs hw => ?_)
  have hw : Wd (cM σ) D (Ky κ) A s (((((([(q, .inr (7, [.ref q1, .ref q2, .ref q3, .ref q4, .ref q5, .ref q6, .null, .null, .null, .int 0]))] ++ wcX0 κ q1 u1) ++ [(q2, .inl (κ 4, 60, .inr (.inr (.inr (.inr (fun _ => none))))))]) ++ wcX2 κ q3 u3) ++ [(q4, .inl (κ 0, 6, .inl (fun _ => 0)))]) ++ wcX4 κ q5 u5) ++ wcX6 κ q6 u6) H locs := hw
  refine lv_aload_n X.1 X.2.1 dX8_init_65 rfl (lv_at hl 0 rfl) ?_
  refine r_new (ci := 3) (fs := [.null, .null, .null, .null, .null, .null, .null, .null, .null, .int 0, .int 0, .int 0, .int 0, .int 0, .int 0, .int 0, .int 0, .int 0]) (C := RX3) (T := TX3) (NN := 18) X hw inX8_init_X3 tyX3_ok (X.2.2.2.2 _ (by decide +kernel)) (X.2.2.2.2 _ (by decide +kernel)) (X.2.2.2.2 _ (by decide +kernel)) rfl (fun j hj => by rcases (show j = 0 ∨ j = 1 ∨ j = 2 ∨ j = 3 ∨ j = 4 ∨ j = 5 ∨ j = 6 ∨ j = 7 ∨ j = 8 ∨ j = 9 ∨ j = 10 ∨ j = 11 ∨ j = 12 ∨ j = 13 ∨ j = 14 ∨ j = 15 ∨ j = 16 ∨ j = 17 by omega) with rfl | rfl | rfl | rfl | rfl | rfl | rfl | rfl | rfl | rfl | rfl | rfl | rfl | rfl | rfl | rfl | rfl | rfl <;> rfl) (Nat.le_of_ble_eq_true rfl) (Nat.le_of_ble_eq_true rfl) dX8_init_66 (fun q7 H hw => ?_)
  refine lv_dup X.1 X.2.1 dX8_init_69 rfl ?_
  refine r_ctorN (As := []) (rest := [.ref q7, .ref q]) X cM_ok (kX3_init cM_ok (fun _ _ h => h.2.2)) ⟨va_cnB 0 X.2.2.2.2 gX8_init_X3_init_n51 rfl rfl rfl (cN_X8_51 hw.2.2.2.2.2.1) (X.2.2.2.2 _ (by decide +kernel)) (by decide +kernel) ⟨Nat.le_of_ble_eq_true rfl, Nat.le_of_ble_eq_true rfl⟩, rfl, X.2.2.2.2 _ (by decide +kernel)⟩ hw rfl hl.1 rfl (Nat.le_of_ble_eq_true rfl) dX8_init_70 ⟨Nat.le_of_ble_eq_true rfl, Nat.le_of_ble_eq_true rfl⟩ (fun u7 H locs hu7 hw => ?_)
  refine r_pfF (ty := (.object "TestHall$Streets")) X inX8_init_X8 tyX8_ok nmX8 hmn hw 0 rfl rfl 6 (by decide) (X.2.2.2.2 (.fieldLink RX8 52 "TestHall" "streets" "LTestHall$Streets;") (by decide +kernel)) rfl rfl rfl (by decide +kernel) rfl rfl (Nat.le_of_ble_eq_true rfl) dX8_init_73 (fun H locs hw => ?_)
  have hw : Wd (cM σ) D (Ky κ) A s ((((((([(q, .inr (7, [.ref q1, .ref q2, .ref q3, .ref q4, .ref q5, .ref q6, .ref q7, .null, .null, .int 0]))] ++ wcX0 κ q1 u1) ++ [(q2, .inl (κ 4, 60, .inr (.inr (.inr (.inr (fun _ => none))))))]) ++ wcX2 κ q3 u3) ++ [(q4, .inl (κ 0, 6, .inl (fun _ => 0)))]) ++ wcX4 κ q5 u5) ++ wcX6 κ q6 u6) ++ wcX3 κ q7 u7) H locs := hw
  refine lv_aload_n X.1 X.2.1 dX8_init_76 rfl (lv_at hl 0 rfl) ?_
  refine r_new (ci := 5) (fs := [.null, .null, .null, .null, .int 0, .int 0]) (C := RX5) (T := TX5) (NN := 6) X hw inX8_init_X5 tyX5_ok (X.2.2.2.2 _ (by decide +kernel)) (X.2.2.2.2 _ (by decide +kernel)) (X.2.2.2.2 _ (by decide +kernel)) rfl (fun j hj => by rcases (show j = 0 ∨ j = 1 ∨ j = 2 ∨ j = 3 ∨ j = 4 ∨ j = 5 by omega) with rfl | rfl | rfl | rfl | rfl | rfl <;> rfl) (Nat.le_of_ble_eq_true rfl) (Nat.le_of_ble_eq_true rfl) dX8_init_77 (fun q8 H hw => ?_)
  refine lv_dup X.1 X.2.1 dX8_init_80 rfl ?_
  refine r_ctorN (As := []) (rest := [.ref q8, .ref q]) X cM_ok (kX5_init cM_ok) ⟨va_cnB 0 X.2.2.2.2 gX8_init_X5_init_n56 rfl rfl rfl (cN_X8_56 hw.2.2.2.2.2.1) (X.2.2.2.2 _ (by decide +kernel)) (by decide +kernel) ⟨Nat.le_of_ble_eq_true rfl, Nat.le_of_ble_eq_true rfl⟩, rfl, X.2.2.2.2 _ (by decide +kernel)⟩ hw rfl hl.1 rfl (Nat.le_of_ble_eq_true rfl) dX8_init_81 ⟨Nat.le_of_ble_eq_true rfl, Nat.le_of_ble_eq_true rfl⟩ (fun u8 H locs hu8 hw => ?_)
  refine r_pf (ty := (.object "TestHall$Text")) X inX8_init_X8 tyX8_ok nmX8 hw 0 rfl rfl 7 (by decide) (X.2.2.2.2 (.fieldLink RX8 57 "TestHall" "order" "LTestHall$Text;") (by decide +kernel)) rfl rfl (by decide +kernel) rfl rfl (Nat.le_of_ble_eq_true rfl) rfl dX8_init_84 (fun H locs hw => ?_)
  have hw : Wd (cM σ) D (Ky κ) A s (((((((([(q, .inr (7, [.ref q1, .ref q2, .ref q3, .ref q4, .ref q5, .ref q6, .ref q7, .ref q8, .null, .int 0]))] ++ wcX0 κ q1 u1) ++ [(q2, .inl (κ 4, 60, .inr (.inr (.inr (.inr (fun _ => none))))))]) ++ wcX2 κ q3 u3) ++ [(q4, .inl (κ 0, 6, .inl (fun _ => 0)))]) ++ wcX4 κ q5 u5) ++ wcX6 κ q6 u6) ++ wcX3 κ q7 u7) ++ wcX5 κ q8 u8) H locs := hw
  refine lv_aload_n X.1 X.2.1 dX8_init_87 rfl (lv_at hl 0 rfl) ?_
  refine r_new (ci := 5) (fs := [.null, .null, .null, .null, .int 0, .int 0]) (C := RX5) (T := TX5) (NN := 6) X hw inX8_init_X5 tyX5_ok (X.2.2.2.2 _ (by decide +kernel)) (X.2.2.2.2 _ (by decide +kernel)) (X.2.2.2.2 _ (by decide +kernel)) rfl (fun j hj => by rcases (show j = 0 ∨ j = 1 ∨ j = 2 ∨ j = 3 ∨ j = 4 ∨ j = 5 by omega) with rfl | rfl | rfl | rfl | rfl | rfl <;> rfl) (Nat.le_of_ble_eq_true rfl) (Nat.le_of_ble_eq_true rfl) dX8_init_88 (fun q9 H hw => ?_)
  refine lv_dup X.1 X.2.1 dX8_init_91 rfl ?_
  refine r_ctorN (As := []) (rest := [.ref q9, .ref q]) X cM_ok (kX5_init cM_ok) ⟨va_cnB 0 X.2.2.2.2 gX8_init_X5_init_n56 rfl rfl rfl (cN_X8_56 hw.2.2.2.2.2.1) (X.2.2.2.2 _ (by decide +kernel)) (by decide +kernel) ⟨Nat.le_of_ble_eq_true rfl, Nat.le_of_ble_eq_true rfl⟩, rfl, X.2.2.2.2 _ (by decide +kernel)⟩ hw rfl hl.1 rfl (Nat.le_of_ble_eq_true rfl) dX8_init_92 ⟨Nat.le_of_ble_eq_true rfl, Nat.le_of_ble_eq_true rfl⟩ (fun u9 H locs hu9 hw => ?_)
  refine r_pf (ty := (.object "TestHall$Text")) X inX8_init_X8 tyX8_ok nmX8 hw 0 rfl rfl 8 (by decide) (X.2.2.2.2 (.fieldLink RX8 61 "TestHall" "spare" "LTestHall$Text;") (by decide +kernel)) rfl rfl (by decide +kernel) rfl rfl (Nat.le_of_ble_eq_true rfl) rfl dX8_init_95 (fun H locs hw => ?_)
  have hw : Wd (cM σ) D (Ky κ) A s ((((((((([(q, .inr (7, [.ref q1, .ref q2, .ref q3, .ref q4, .ref q5, .ref q6, .ref q7, .ref q8, .ref q9, .int 0]))] ++ wcX0 κ q1 u1) ++ [(q2, .inl (κ 4, 60, .inr (.inr (.inr (.inr (fun _ => none))))))]) ++ wcX2 κ q3 u3) ++ [(q4, .inl (κ 0, 6, .inl (fun _ => 0)))]) ++ wcX4 κ q5 u5) ++ wcX6 κ q6 u6) ++ wcX3 κ q7 u7) ++ wcX5 κ q8 u8) ++ wcX5 κ q9 u9) H locs := hw
  refine lv_aload_n X.1 X.2.1 dX8_init_98 rfl (lv_at hl 0 rfl) ?_
  refine lv_iconst (v := (0 : Int32)) X.1 X.2.1 dX8_init_99 (by decide) ?_
  refine r_pf (ty := .int) X inX8_init_X8 tyX8_ok nmX8 hw 0 rfl rfl 9 (by decide) (X.2.2.2.2 (.fieldLink RX8 64 "TestHall" "learnerCount" "I") (by decide +kernel)) rfl rfl (by decide +kernel) rfl rfl (Nat.le_of_ble_eq_true rfl) rfl dX8_init_100 (fun H locs hw => ?_)
  have hw : Wd (cM σ) D (Ky κ) A s ((((((((([(q, .inr (7, [.ref q1, .ref q2, .ref q3, .ref q4, .ref q5, .ref q6, .ref q7, .ref q8, .ref q9, .int 0]))] ++ wcX0 κ q1 u1) ++ [(q2, .inl (κ 4, 60, .inr (.inr (.inr (.inr (fun _ => none))))))]) ++ wcX2 κ q3 u3) ++ [(q4, .inl (κ 0, 6, .inl (fun _ => 0)))]) ++ wcX4 κ q5 u5) ++ wcX6 κ q6 u6) ++ wcX3 κ q7 u7) ++ wcX5 κ q8 u8) ++ wcX5 κ q9 u9) H locs := hw
  have hw2 : Wd (cM σ) D (Ky κ) A s (cw κ (et8 [q, q1, q3, q5, q6, q7, q8, q9, q2, u1.1 1, u1.1 2, u1.1 3, u1.1 4, u1.1 5, u3 1, u3 2, q4, u5 1, u8 1, u8 2, u8 3, u8 4, u9 1, u9 2, u9 3, u9 4, u6 1, u6 2, u7.1 1, u7.1 2, u7.1 3, u7.1 4, u7.1 5, u7.1 7, u7.1 8, u7.1 9, u7.1 6] u7.2) 0 (cM0 u1.2.1 u1.2.2)) H locs := by
    rw [cw_start]
    unfold wcX0 wcX2 wcX4 wcX6 wcX3 wcX5 at hw
    exact x8_perm hw
  exact r_cret (wf := fun u : (Nat → Nat) × Sg => cw κ u.1 0 u.2) (et8 [q, q1, q3, q5, q6, q7, q8, q9, q2, u1.1 1, u1.1 2, u1.1 3, u1.1 4, u1.1 5, u3 1, u3 2, q4, u5 1, u8 1, u8 2, u8 3, u8 4, u9 1, u9 2, u9 3, u9 4, u6 1, u6 2, u7.1 1, u7.1 2, u7.1 3, u7.1 4, u7.1 5, u7.1 7, u7.1 8, u7.1 9, u7.1 6] u7.2, cM0 u1.2.1 u1.2.2) X hr hlk hw2 ⟨rfl, cM0_init hu1.1 hu1.2⟩ dX8_init_103
