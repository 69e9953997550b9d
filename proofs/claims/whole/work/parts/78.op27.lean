/-! text() on both sides -/
theorem z_disT : ∀ k ∈ [0, 1, 2, 3, 5, 6, 23], k ∉ [14, 17, 18, 19, 20, 21, 22, 24, 25] := by decide
theorem z_disU : ∀ a ∈ [0, 1, 2, 3, 4, 19, 20, 21, 22, 23, 24, 26, 30, 31, 32, 33, 34, 35, 36, 37, 38, 39, 40, 41, 50, 51, 52, 53, 54, 55, 56, 57, 58, 59, 60, 61], a ∉ [13, 14, 15, 17, 18] := by decide
theorem z_disV : ∀ k ∈ [24, 25, 30, 42, 45, 55], k ∉ [0, 2, 3, 7, 8, 16, 17, 18] := by decide
theorem z_disW : ∀ a ∈ [26, 27, 28, 29, 30, 31, 32, 33, 34, 35, 36, 37, 38, 39, 40, 41, 46, 47, 48, 49, 50, 51, 54], a ∉ [4, 5, 10, 11, 12, 13, 14, 19, 20, 21] := by decide
theorem swM_I {M : Sg} {k : Nat} (h1 : k ≠ 15) (h2 : k ≠ 17) (h3 : k ≠ 16) (h4 : k ≠ 18) (h5 : k ≠ 24) : gI (swM M) k = gI M k := by
  show (if k = 15 then _ else if k = 17 then _ else if k = 16 then _ else if k = 18 then _ else if k = 24 then _ else M.1 k) = M.1 k
  rw [if_neg h1, if_neg h2, if_neg h3, if_neg h4, if_neg h5]
theorem swM_A {M : Sg} {a : Nat} (h : a < 9 ∨ 17 ≤ a) : gA (swM M) a = gA M a := by
  show (if 9 ≤ a ∧ a < 13 then _ else if 13 ≤ a ∧ a < 17 then _ else M.2.1 a) = M.2.1 a
  rw [if_neg (by omega), if_neg (by omega)]
theorem swM_15 (M : Sg) : gI (swM M) 15 = gI M 17 := rfl
theorem swM_9 (M : Sg) : gA (swM M) 9 = gA M 13 := rfl
theorem swM_10 (M : Sg) : gA (swM M) 10 = gA M 14 := rfl
theorem swM_11 (M : Sg) : gA (swM M) 11 = gA M 15 := rfl
theorem op_text {i n : Nat} {C R : Sg} (h : Rel i n C R) : wX8_text n C (fun n' C' r => wX9_text R (Nx i n' C' r)) := by
  have h0 := Rel_thr (v := 0) h
  obtain ⟨-, -, -, -, -, ⟨t, t6, f14, f2, ft⟩, hX, hZ⟩ := id h0
  obtain ⟨mX, hd, st, hX1⟩ : ∃ (m hd : Nat) (st : Nat → Nat), RelX1 m hd st C (sI R 0 0) := hX
  have hd1 : hd ≤ 1 := hX1.2.1
  have ft8 : ∀ i, i < t → gA C 8 i = gA R 1 i := fun i hi => (ft i hi).1
  unfold wX8_text wX6_read
  intro M1 e1 M2 e2 M3 e3
  refine ⟨by rw [e3]; rfl, fun M4 e4 M5 e5 => ?_⟩
  have aC : ag [14, 17, 18, 19, 20, 21, 22, 24, 25] [13, 14, 15, 17, 18] C M5 := by
    rw [e5, e4, e3, e2, e1]
    exact ag_sI (ag_sI (ag_sI (ag_sI (ag_sI ag_rf (by decide)) (by decide)) (by decide)) (by decide)) (by decide)
  have hM5 : tpC (gA R 1) t M5 := by
    rw [e5, e4, e3, e2, e1]
    exact ⟨t6, rfl, f14, ft8⟩
  have q17 : gI M5 17 = 0 := by rw [e5, e4]; rfl
  have q18 : gI M5 18 = 0 := by rw [e5]; rfl
  have q24 : gI M5 24 = 1 := by rw [e5, e4, e3]; rfl
  refine z_scanC hM5 (fun ts M6 hts a6 hC6 M8 e8 M9 e9 => ?_)
  have hlen := TKs_len ts 0 hts (Nat.zero_le t)
  obtain ⟨L, eL⟩ : ∃ L, L = ts ++ [(10016, t)] := ⟨_, rfl⟩
  rw [← eL] at hC6
  have hN : L.length = ts.length + 1 := by rw [eL, List.length_append, List.length_singleton]
  have bd : ∀ i, i < L.length → (L.getD i (0, 0)).1 ≤ 10017 ∧ (L.getD i (0, 0)).2 ≤ 600 := fun i hi => by
    rw [eL, z_getDp]
    by_cases z : i < ts.length
    · rw [if_pos z]
      have := TKs_b ts 0 hts i z
      exact ⟨this.1, by omega⟩
    · rw [if_neg z, if_pos (by omega)]
      exact ⟨show 10016 ≤ 10017 by decide, t6⟩
  have lst : (L.getD (L.length - 1) (0, 0)).1 = 10016 := by
    rw [hN, Nat.add_sub_cancel, eL, z_getDp, if_neg (Nat.lt_irrefl _), if_pos rfl]
  have aC9 : ag [14, 17, 18, 19, 20, 21, 22, 24, 25] [13, 14, 15, 17, 18] C M9 := by
    rw [e9, e8]
    exact ag_sI (ag_sI (ag_tr aC (ag_mono a6 (by simp) (by simp))) (by decide)) (by decide)
  have hTB : TB (fun i => (L.getD i (0, 0)).1) L.length M9 := by
    refine ⟨by omega, by omega, by rw [e9, e8]; exact hC6.1, fun i hi => ⟨by rw [e9, e8]; exact (hC6.2 i hi).1, (bd i hi).1⟩, lst, ?_, by rw [e9]; rfl⟩
    rw [e9, e8]
    show gI M6 24 = 1
    rw [a6.1 24 (by decide)]; exact q24
  have hLn : LnS L.length M9 0 [] M9 := by
    refine ⟨ag_rf, by rw [e9, e8]; rfl, ?_, fun i hi => absurd hi (Nat.not_lt_zero i), Nat.le_refl 0, by omega, ?_, by decide, fun i hi => absurd hi (Nat.not_lt_zero i)⟩
    · rw [e9, e8]
      show gI M6 18 = 0
      rw [a6.1 18 (by decide)]; exact q18
    · rw [e9, e8]
      show gI M6 17 = 0
      rw [a6.1 17 (by decide)]; exact q17
  -- the reference's run
  have run : ∀ (r : PT) (j : Nat) (Q : Sg → Int32 → Prop), PText (fun i => (L.getD i (0, 0)).1) j 0 [] r → (∀ R6, ag [0, 2, 3, 7, 8, 16, 17, 18] [4, 5, 10, 11, 12, 13, 14, 19, 20, 21] R R6 → gI R6 2 = 0 → gI R6 15 = nI hd → fr10 (1 - hd) R R6 → gA R6 11 = gA R 11 → gA R6 12 = gA R 12 → gA R6 13 = gA R 13 → gA R6 14 = gA R 14 → (∀ p k, r = .inl (p, k) → ∀ M', RF L.length (1 - hd) (fun i => (L.getD i (0, 0)).2) R6 p k M' → Q M' (nI (k + 16 * (L.getD p (0, 0)).2))) ∧ (∀ ls, r = .inr ls → ∀ p M', RLn L.length (1 - hd) R6 p ls M' → Q (sI M' 15 (nI (1 - hd))) 0)) → wX9_text R Q := by
    intro r j Q hP hh
    intro Ma ea
    subst ea
    refine z_cutAll (g := gA R 1) t6 f2 (fun i hi => ⟨rfl, (ft i hi).2⟩) hts (fun M2 b1 b2 b3 b4 b5 M4 e4 => ?_)
    rw [← eL] at b5
    have i15 : gI M2 15 = nI hd := (b1.1 15 (by decide)).trans hX1.2.2.2.1
    rw [i15, show (1 : Int32) = nI 1 from rfl, pk_sub hd1] at e4
    have i16 : gI M4 16 = nI (1 - hd) := by rw [e4]; rfl
    rw [i16, nI_clamp (by omega)]
    refine ⟨vp_in_nI (by omega) (by decide), fun M5' e5' M6' e6' => ?_⟩
    have a0 : ag [0, 2, 3, 7, 8, 16, 17, 18] [4, 5, 10, 11, 12, 13, 14, 19, 20, 21] R M6' := by
      rw [e6', e5', e4]
      exact ag_sI (ag_sA (ag_sI (ag_tr (ag_sI (ag_rf (M := R)) (by decide)) (ag_mono b1 (by simp) (by simp))) (by decide)) (by decide)) (by decide)
    have hT6 : TM (fun i => (L.getD i (0, 0)).1) (fun i => (L.getD i (0, 0)).2) L.length (1 - hd) M6' := by
      refine ⟨by omega, by omega, fun i hi => ?_, lst, ?_, by rw [e6', e5']; exact i16, by omega, by rw [e6', e5', e4]; exact b4⟩
      · have := b5 i hi
        rw [e6', e5', e4]
        exact ⟨this.1, this.2, (bd i hi).1, (bd i hi).2⟩
      · rw [e6', e5', e4]
        exact b1.2.2.trans hZ.1
    have r15 : gI M6' 15 = nI hd := by rw [e6', e5', e4]; exact i15
    have r2 : gI M6' 2 = 0 := by rw [e6', e5', e4]; exact b2
    have g10 : fr10 (1 - hd) R M6' := fun j hj => by
      rw [e6', e5', e4]
      show upd (gA M2 10) (1 - hd) 0 j = _
      rw [pk_un hj, b1.2.1 10 (by decide)]; rfl
    have g11 : gA M6' 11 = gA R 11 := by rw [e6', e5', e4]; exact b1.2.1 11 (by decide)
    have g12 : gA M6' 12 = gA R 12 := by rw [e6', e5', e4]; exact b1.2.1 12 (by decide)
    have g13 : gA M6' 13 = gA R 13 := by rw [e6', e5', e4]; exact b1.2.1 13 (by decide)
    have g14 : gA M6' 14 = gA R 14 := by rw [e6', e5', e4]; exact b1.2.1 14 (by decide)
    obtain ⟨k1, k2⟩ := hh M6' a0 r2 r15 g10 g11 g12 g13 g14
    refine ⟨j + 1, m_text hT6 k1 k2 j 0 [] M6' hP ⟨ag_rf, rfl, by rw [e6', e5', e4]; exact b3, by rw [e6']; rfl, ?_, fun _ _ => rfl, fun _ _ => ⟨rfl, rfl⟩, fun _ _ => ⟨rfl, rfl⟩, fun i hi => absurd hi (Nat.not_lt_zero i), Nat.le_refl 0, by omega, by decide⟩⟩
    rw [e6', e5']
    show upd (gA M4 10) (1 - hd) 0 (1 - hd) = _
    rw [pk_us]; rfl
  refine ⟨18, z_text (pls := fun i => (L.getD i (0, 0)).2) hTB (fun i hi => by rw [e9, e8]; exact (hC6.2 i hi).2) 17 0 [] M9 (by decide) hLn (fun p k M' j hP hp aM Mx ex => ?_) (fun ls' M' j p' hP hL Mx ex => ?_)⟩
  · have hk := kb_text j 0 [] p k hP
    have hpl := (bd p hp).2
    have ev : nI k + 16 * nI (L.getD p (0, 0)).2 = nI (k + 16 * (L.getD p (0, 0)).2) := by rw [show (16 : Int32) = nI 16 from rfl, pk_mul, nI_add]
    have hne : ¬ nI (k + 16 * (L.getD p (0, 0)).2) = 0 := nI_ne0 (by omega) (by omega)
    show (¬ nI k + 16 * nI (L.getD p (0, 0)).2 = 0 → _) ∧ (nI k + 16 * nI (L.getD p (0, 0)).2 = 0 → _)
    rw [ev]
    refine ⟨fun _ => run _ j _ hP (fun R6 a0 r2 r15 g10 g11 g12 g13 g14 => ⟨fun p2 k2 er MR hR => ?_, fun ls er => absurd er (by simp)⟩), fun c => absurd c hne⟩
    injection er with er; injection er with er1 er2; subst er1 er2
    refine ⟨rfl, Rel_mono ?_ (Nat.le_succ i)⟩
    obtain ⟨z1, z2, z3, z4, z5, -⟩ := hR
    have aC' : ag [14, 17, 18, 19, 20, 21, 22, 24, 25] [13, 14, 15, 17, 18] C Mx := by
      rw [ex]
      exact ag_sI (ag_tr aC9 (ag_mono aM (by simp) (by simp))) (by decide)
    have aR' : ag [0, 2, 3, 7, 8, 16, 17, 18] [4, 5, 10, 11, 12, 13, 14, 19, 20, 21] R MR := ag_tr a0 (ag_mono z1 (by simp) (by simp))
    refine Rel_text h (fun k hk => aC'.1 k (z_disT k hk)) (fun a ha => aC'.2.1 a (z_disU a ha)) (by rw [ex]; rfl) (fun k hk => aR'.1 k (z_disV k hk)) (fun a ha => aR'.2.1 a (z_disW a ha)) ((z1.1 2 (by decide)).trans r2) aR'.2.2 ?_
    refine RelX_old (nx := 1 - hd) (C := C) (R := R) ⟨mX, hd, st, hd1, rfl, hX1⟩ (aC'.1 15 (by decide)) (aC'.2.1 9 (by decide)) (aC'.2.1 10 (by decide)) (aC'.2.1 11 (by decide)) (((z1.1 15 (by decide)).trans r15).trans hX1.2.2.2.1.symm) (fun j hj => (z3 j hj).trans (g10 j hj)) (fun j hj => ?_) (fun j hj => ?_)
    · have := z4 j hj
      rw [g11, g12] at this
      exact this
    · have := z5 j hj
      rw [g13, g14] at this
      exact this
  · refine ⟨fun c => absurd rfl c, fun _ => run _ j _ hP (fun R6 a0 r2 r15 g10 g11 g12 g13 g14 => ⟨fun p2 k2 er => absurd er (by simp), fun ls er p2 MR hR => ?_⟩)⟩
    injection er with er
    subst er
    refine ⟨rfl, Rel_mono ?_ (Nat.le_succ i)⟩
    have aC' : ag [14, 17, 18, 19, 20, 21, 22, 24, 25] [13, 14, 15, 17, 18] C Mx := by
      rw [ex]
      exact ag_sI (ag_tr aC9 (ag_mono hL.1 (by simp) (by simp))) (by decide)
    have aR' : ag [0, 2, 3, 7, 8, 16, 17, 18] [4, 5, 10, 11, 12, 13, 14, 19, 20, 21] R MR := ag_tr a0 (ag_mono hR.1 (by simp) (by simp))
    have swi : ∀ k ∈ [0, 1, 2, 3, 5, 6, 23], k ≠ 15 ∧ k ≠ 17 ∧ k ≠ 16 ∧ k ≠ 18 ∧ k ≠ 24 := by decide
    have swa : ∀ a ∈ [0, 1, 2, 3, 4, 19, 20, 21, 22, 23, 24, 26, 30, 31, 32, 33, 34, 35, 36, 37, 38, 39, 40, 41, 50, 51, 52, 53, 54, 55, 56, 57, 58, 59, 60, 61], a < 9 ∨ 17 ≤ a := by decide
    have r15n : ∀ k ∈ [24, 25, 30, 42, 45, 55], ¬ k = 15 := by decide
    refine Rel_text h (fun k hk => ?_) (fun a ha => ?_) ?_ (fun k hk => ?_) (fun a ha => aR'.2.1 a (z_disW a ha)) ?_ aR'.2.2 ?_
    · obtain ⟨s1, s2, s3, s4, s5⟩ := swi k hk
      rw [swM_I s1 s2 s3 s4 s5]
      exact aC'.1 k (z_disT k hk)
    · rw [swM_A (swa a ha)]
      exact aC'.2.1 a (z_disU a ha)
    · rw [swM_I (by decide) (by decide) (by decide) (by decide) (by decide), ex]; rfl
    · rw [gI_sI, if_neg (r15n k hk)]
      exact aR'.1 k (z_disV k hk)
    · show gI MR 2 = 0
      exact (hR.1.1 2 (by decide)).trans r2
    · exact RelX_new (N := L.length) (N' := L.length) (nx := 1 - hd) (by omega) (by omega) (gl_text j 0 [] ls' (fun l hl => absurd hl (by simp)) hP) hL hR (by rw [swM_15, ex]; rfl) (by rw [swM_9, ex]; rfl) (by rw [swM_10, ex]; rfl) (by rw [swM_11, ex]; rfl) rfl rfl rfl rfl rfl rfl
