/-! the law's start: names, classes, arrays -/
def tmS (i : Nat) : Term := ([Term.string "TestHall$TextReader" 120, Term.string "TestHall$TextReader" 126, Term.string "TestHall$TextReader" 128, Term.string "TestHall$TextReader" 130, Term.string "TestHall$TextReader" 132, Term.string "TestHall$TextReader" 134, Term.string "TestHall$TextReader" 136, Term.string "TestHall$TextReader" 138, Term.string "TestHall$TextReader" 140, Term.string "TestHall" 188, Term.string "TestHall" 199] : List Term).getD i (Term.string "TestHall" 199)
set_option maxRecDepth 100000 in
theorem st_ex : ∀ i : Nat, i < 11 → Cond.exactly (tmS i) "java/lang/String" ∈ flatC (Jvm.Cond.and given_1 narrow_1) := by decide +kernel
set_option maxRecDepth 100000 in
theorem st_co : ∀ i : Nat, i < 11 → Cond.eq (.field (tmS i) "java/lang/String" "coder" "B") (.int 0) ∈ flatC (Jvm.Cond.and given_1 narrow_1) := by decide +kernel
set_option maxRecDepth 100000 in
theorem st_ar : ∀ i : Nat, i < 11 → Cond.arrayOf (.field (tmS i) "java/lang/String" "value" "[B") .byte ∈ flatC (Jvm.Cond.and given_1 narrow_1) := by decide +kernel
set_option maxRecDepth 100000 in
theorem st_le : ∀ i : Nat, i < 11 → Cond.eq (.length (.field (tmS i) "java/lang/String" "value" "[B")) (.int (Int32.ofNat (sLen.getD i 0))) ∈ flatC (Jvm.Cond.and given_1 narrow_1) := by decide +kernel
set_option maxRecDepth 100000 in
theorem st_el : ∀ i : Nat, i < 11 → ∀ j : Nat, j < sLen.getD i 0 → Cond.eq (.elem (.field (tmS i) "java/lang/String" "value" "[B") (.int (Int32.ofNat j))) (.int ((sByt.getD i []).getD j 0)) ∈ flatC (Jvm.Cond.and given_1 narrow_1) := by decide +kernel
set_option maxRecDepth 100000 in
theorem st_ne : ∀ i : Nat, i < 11 → ∀ j : Nat, j < 11 → i ≠ j → Cond.not (Cond.eq (tmS i) (tmS j)) ∈ flatC (Jvm.Cond.and given_1 narrow_1) ∨ Cond.not (Cond.eq (tmS j) (tmS i)) ∈ flatC (Jvm.Cond.and given_1 narrow_1) := by decide +kernel
set_option maxHeartbeats 4000000 in
set_option maxRecDepth 100000 in
theorem st_names {args : Array Value} {s : State} (hts : ∀ w ∈ lw_tbl, w.before args s = true) (hgv : (Jvm.Cond.and given_1 narrow_1).before args s = true) : ∃ σ : (Nat → Nat) × (Nat → Nat), cX σ (fun q : Nat => s.heap.size ≤ q) s := by
  have hg := flat_of_before _ hgv
  have hA : ∀ a : Nat, a < s.heap.size → ¬ (fun q : Nat => s.heap.size ≤ q) a := fun a h => Nat.not_le.mpr h
  obtain ⟨adK, adV, hS, hE⟩ := vk_Sof (A := fun q : Nat => s.heap.size ≤ q) (tm := tmS) (len := sLen) (byt := sByt) (N := 11) (fun i hi => by revert i hi; decide) (fun i hi => hg _ (st_ex i hi)) (fun i hi => hg _ (st_co i hi)) (fun i hi => hg _ (st_ar i hi)) (fun i hi => hg _ (st_le i hi)) (fun i hi j hj => hg _ (st_el i hi j hj)) (fun i j hi hj hij => (st_ne i hi j hj hij).elim (fun h => Or.inl (hg _ h)) (fun h => Or.inr (hg _ h))) hA
  have hZ1 : va_Z "java/lang/String" "COMPACT_STRINGS" "Z" (.int 1) (fun q : Nat => s.heap.size ≤ q) s s.heap := va_Zof (hts (.laysStatic "java/lang/String" "COMPACT_STRINGS" "Z") (by decide +kernel)) (hts (.initialized "java/lang/String") (by decide +kernel)) (va_eqt (hg (Cond.eq (.static "java/lang/String" "COMPACT_STRINGS" "Z") (.int 1)) (by decide +kernel))) hA
  have hZ2 : va_Zq "jdk/internal/util/Preconditions" "SIOOBE_FORMATTER" "Ljava/util/function/BiFunction;" (fun q : Nat => s.heap.size ≤ q) s s.heap := va_Zqof (hts (.laysStatic "jdk/internal/util/Preconditions" "SIOOBE_FORMATTER" "Ljava/util/function/BiFunction;") (by decide +kernel)) (hts (.initialized "jdk/internal/util/Preconditions") (by decide +kernel)) (hg (Cond.isRef (.static "jdk/internal/util/Preconditions" "SIOOBE_FORMATTER" "Ljava/util/function/BiFunction;")) (by decide +kernel)) hA
  have hZ3 : vx_Zq Bundle.tN "UNASSIGNED_STACK" Bundle.steD (fun q : Nat => s.heap.size ≤ q) s s.heap := vx_Zqof (hts (.laysStatic Bundle.tN "UNASSIGNED_STACK" Bundle.steD) (by decide +kernel)) (hts (.initialized Bundle.tN) (by decide +kernel)) (hg (Cond.isRef (.static Bundle.tN "UNASSIGNED_STACK" Bundle.steD)) (by decide +kernel)) hA
  have hZ4 : vx_Zq Bundle.tN "SUPPRESSED_SENTINEL" Bundle.listD (fun q : Nat => s.heap.size ≤ q) s s.heap := vx_Zqof (hts (.laysStatic Bundle.tN "SUPPRESSED_SENTINEL" Bundle.listD) (by decide +kernel)) (hts (.initialized Bundle.tN) (by decide +kernel)) (hg (Cond.isRef (.static Bundle.tN "SUPPRESSED_SENTINEL" Bundle.listD)) (by decide +kernel)) hA
  have hn : cNn s := ⟨va_Nw.of rfl (hts (.methodLinkNest RX0 42 yX8_isDay RX8) (by decide +kernel)), va_Nw.of rfl (hts (.methodLinkNest RX0 56 yX8_dayOf RX8) (by decide +kernel)), va_Nw.of rfl (hts (.methodLinkNest RX0 63 yX8_hourOf RX8) (by decide +kernel)), va_Nw.of rfl (hts (.methodLinkNest RX0 66 yX8_examinerOf RX8) (by decide +kernel)), va_Nw.of rfl (hts (.methodLinkNest RX0 81 yX8_slotOf RX8) (by decide +kernel)), va_Nw.of rfl (hts (.methodLinkNest RX3 50 yX8_isWithin RX8) (by decide +kernel)), va_Nw.of rfl (hts (.methodLinkNest RX4 13 yX8_isWithin RX8) (by decide +kernel)), va_Nw.of rfl (hts (.methodLinkNest RX8 24 yX2_init RX8) (by decide +kernel)), va_Nw.of rfl (hts (.methodLinkNest RX8 37 yX4_init RX8) (by decide +kernel)), va_Nw.of rfl (hts (.methodLinkNest RX8 44 yX6_init RX8) (by decide +kernel)), va_Nw.of rfl (hts (.methodLinkNest RX8 51 yX3_init RX8) (by decide +kernel)), va_Nw.of rfl (hts (.methodLinkNest RX8 56 yX5_init RX8) (by decide +kernel))⟩
  have hr : cNr (adK, adV) s := ⟨vk_R.of (hts (.stringRef "TestHall$TextReader" 120 "first") (by decide +kernel)) (hE 0 (by decide)), vk_R.of (hts (.stringRef "TestHall$TextReader" 126 "when") (by decide +kernel)) (hE 1 (by decide)), vk_R.of (hts (.stringRef "TestHall$TextReader" 128 "and") (by decide +kernel)) (hE 2 (by decide)), vk_R.of (hts (.stringRef "TestHall$TextReader" 130 "sort") (by decide +kernel)) (hE 3 (by decide)), vk_R.of (hts (.stringRef "TestHall$TextReader" 132 "town") (by decide +kernel)) (hE 4 (by decide)), vk_R.of (hts (.stringRef "TestHall$TextReader" 134 "waits") (by decide +kernel)) (hE 5 (by decide)), vk_R.of (hts (.stringRef "TestHall$TextReader" 136 "tries") (by decide +kernel)) (hE 6 (by decide)), vk_R.of (hts (.stringRef "TestHall$TextReader" 138 "left") (by decide +kernel)) (hE 7 (by decide)), vk_R.of (hts (.stringRef "TestHall$TextReader" 140 "day") (by decide +kernel)) (hE 8 (by decide)), vk_R.of (hts (.stringRef "TestHall" 188 "no such learner") (by decide +kernel)) (hE 9 (by decide)), vk_R.of (hts (.stringRef "TestHall" 199 "no such what") (by decide +kernel)) (hE 10 (by decide))⟩
  have hb : cXb s := ⟨va_Nw.of rfl (hts _ (nsB_in _ (by simp))), va_Nw.of rfl (hts _ (nsB_in _ (by simp))), va_Nw.of rfl (hts _ (nsB_in _ (by simp))), va_Nw.of rfl (hts _ (nsB_in _ (by simp)))⟩
  exact ⟨(adK, adV), ⟨⟨hn, hr, hS, hZ1, hZ2⟩, va_AO.of (hts (.arrayOver (.object "TestHall$Learner")) (by decide +kernel)), hts (.arrayOver (.array .int)) (by decide +kernel)⟩, hb, hZ3, hZ4⟩
set_option maxHeartbeats 4000000 in
set_option maxRecDepth 100000 in
theorem st_classes {args : Array Value} {s : State} (hts : ∀ w ∈ lw_tbl, w.before args s = true) : ∃ (D : va_G) (κ : Nat → ClassId), va_K D vwCl (Ky κ) s := by
  obtain ⟨k0, i0, h0⟩ := u_known (C := RX0) (T := TX0) (N := 9) (n := 9) hts wsL_inX00 (hts (.instantiable RX0 9) (by decide +kernel))
  obtain ⟨k1, i1, h1⟩ := u_known (C := RX1) (T := TX1) (N := 12) (n := 12) hts wsL_inX10 (hts (.instantiable RX1 12) (by decide +kernel))
  obtain ⟨k2, i2, h2⟩ := u_known (C := RX2) (T := TX2) (N := 3) (n := 3) hts wsL_inX20 (hts (.instantiable RX2 3) (by decide +kernel))
  obtain ⟨k3, i3, h3⟩ := u_known (C := RX3) (T := TX3) (N := 18) (n := 18) hts wsL_inX30 (hts (.instantiable RX3 18) (by decide +kernel))
  obtain ⟨k4, i4, h4⟩ := u_known (C := RX4) (T := TX4) (N := 2) (n := 2) hts wsL_inX40 (hts (.instantiable RX4 2) (by decide +kernel))
  obtain ⟨k5, i5, h5⟩ := u_known (C := RX5) (T := TX5) (N := 6) (n := 6) hts wsL_inX50 (hts (.instantiable RX5 6) (by decide +kernel))
  obtain ⟨k6, i6, h6⟩ := u_known (C := RX6) (T := TX6) (N := 8) (n := 8) hts wsL_inX60 (hts (.instantiable RX6 8) (by decide +kernel))
  obtain ⟨k7, i7, h7⟩ := u_known (C := RX8) (T := TX8) (N := 10) (n := 10) hts wsL_inX80 (hts (.instantiable RX8 10) (by decide +kernel))
  obtain ⟨k8, i8, h8⟩ := u_known (C := RX9) (T := TX9) (N := 62) (n := 62) hts wsL_inX90 (hts (.instantiable RX9 62) (by decide +kernel))
  obtain ⟨c0, q0, p0, e0, f0, g0⟩ := Cond.arrayClass_spec (hts (.arrayClass .int) (by decide +kernel))
  obtain ⟨c1, q1, p1, e1, f1, g1⟩ := Cond.arrayClass_spec (hts (.arrayClass .boolean) (by decide +kernel))
  obtain ⟨c2, q2, p2, e2, f2, g2⟩ := Cond.arrayClass_spec (hts (.arrayClass .char) (by decide +kernel))
  obtain ⟨c3, q3, p3, e3, f3, g3⟩ := Cond.arrayClass_spec (hts (.arrayClass .long) (by decide +kernel))
  obtain ⟨p4, c4, q4, a4, b4, f4, g4, e4⟩ := Cond.arrayOver_spec (hts (.arrayOver (.object "TestHall$Learner")) (by decide +kernel))
  obtain ⟨p5, c5, q5, a5, b5, f5, g5, e5⟩ := Stand.arrayOver_specB (hts (.arrayOver (.array .int)) (by decide +kernel))
  refine ⟨(fun k => match k with | 0 => k0 | 1 => k1 | 2 => k2 | 3 => k3 | 4 => k4 | 5 => k5 | 6 => k6 | 7 => k7 | _ => k8, fun k => match k with | 0 => i0 | 1 => i1 | 2 => i2 | 3 => i3 | 4 => i4 | 5 => i5 | 6 => i6 | 7 => i7 | _ => i8), fun k => match k with | 0 => c0 | 1 => c1 | 2 => c2 | 3 => c3 | 4 => c4 | _ => c5, ?_, ?_⟩
  · intro k q hq
    match k, hq with
    | 0, hq => cases hq; exact h0
    | 1, hq => cases hq; exact h1
    | 2, hq => cases hq; exact h2
    | 3, hq => cases hq; exact h3
    | 4, hq => cases hq; exact h4
    | 5, hq => cases hq; exact h5
    | 6, hq => cases hq; exact h6
    | 7, hq => cases hq; exact h7
    | 8, hq => cases hq; exact h8
    | k + 9, hq => simp [vwCl] at hq
  · intro k q hq
    match k, hq with
    | 0, hq => cases hq; exact ⟨fun n z => ⟨fun k h => (by cases h), q0, f0, p0, g0⟩, e0⟩
    | 1, hq => cases hq; exact ⟨fun n z => ⟨fun k h => (by cases h), q1, f1, p1, g1⟩, e1⟩
    | 2, hq => cases hq; exact ⟨fun n z => ⟨fun k h => (by cases h), q2, f2, p2, g2⟩, e2⟩
    | 3, hq => cases hq; exact ⟨fun n z => ⟨fun k h => (by cases h), q3, f3, p3, g3⟩, e3⟩
    | 4, hq => cases hq; exact ⟨fun n z => ⟨fun k h => (by cases h), q4, f4, p4, g4⟩, q4, p4, f4, g4, a4, e4⟩
    | 5, hq => cases hq; exact ⟨fun n z => ⟨fun k h => (by cases h), q5, f5, p5, g5⟩, e5⟩
    | k + 6, hq => simp at hq
