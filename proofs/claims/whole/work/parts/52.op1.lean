/-! calls, one by one: both sides answer alike and stay related -/
theorem Rel_thr {i n : Nat} {C R : Sg} {v : Int32} (h : Rel i n C R) : Rel i n C (sI R 0 v) := Rel_R h (fun k hk => by rw [gI_sI, if_neg (fun e => by subst e; revert hk; decide)]) (fun a _ => rfl) rfl
/-- what a call promises -/
abbrev Nx (i n : Nat) (C : Sg) (r : Int32) : Sg → Int32 → Prop := fun R' r' => r' = r ∧ Rel (i + 1) n C R'
theorem Nx_same {i n : Nat} {C R : Sg} {r : Int32} (h : Rel i n C R) : Nx i n C r R r := ⟨rfl, Rel_mono h (Nat.le_succ i)⟩
theorem z_59 {a : Int32} : (59 : Int32) < a ↔ nI 60 ≤ a := by
  rw [Int32.lt_iff_toInt_lt, Int32.le_iff_toInt_le]
  show (59 : Int) < a.toInt ↔ (60 : Int) ≤ a.toInt
  omega
theorem z_5 {a : Int32} : (5 : Int32) < a ↔ nI 6 ≤ a := by
  rw [Int32.lt_iff_toInt_lt, Int32.le_iff_toInt_le]
  show (5 : Int) < a.toInt ↔ (6 : Int) ≤ a.toInt
  omega
theorem op_examiner {i n : Nat} {C R : Sg} (h : Rel i n C R) : wX8_examiner n C (fun C' r => wX9_examiner R (Nx i n C' r)) := by
  have h0 := Rel_thr (v := 0) h
  obtain ⟨⟨w, x, hB, hL⟩, h3, h4, h5, h6, h7, h8, h9⟩ := h0
  have hB' := hB
  obtain ⟨b1, b2, b3, b4, b5, b6, b7, b8, b9, b10, b11, b12⟩ := hB
  have e8 : (8 : Int32) = nI 8 := rfl
  refine ⟨fun c1 M1 e1 => ?_, fun c1 => ?_⟩
  · rw [b8, e8, nI_ltI (by omega) (by decide)] at c1
    intro M2 e2
    subst e2
    refine ⟨fun c2 M3 e3 => ?_, fun c2 => ?_⟩
    · subst e1 e3
      have f1 : gI (sI C 0 (gI C 0 + 1)) 0 = nI (x + 1) := by rw [gI_sI, if_pos rfl, b8, nI_1]
      have f2 : gI (sI (sI R 0 0) 25 (gI (sI R 0 0) 25 + 1)) 25 = nI (x + 1) := by rw [gI_sI, if_pos rfl, b9, nI_1]
      refine ⟨by rw [f1, f2], ⟨w, x + 1, ?_, ?_⟩, RelK_R (RelK_C h3 rfl) rfl rfl, RelP_R (RelP_C (Rel_mono (i := i) (j := i + 1) (n := n) (C := C) (R := sI R 0 0) ⟨⟨w, x, hB', hL⟩, h3, h4, h5, h6, h7, h8, h9⟩ (Nat.le_succ i)).2.2.1 rfl rfl rfl rfl) rfl rfl rfl, ?_, RelD_R (RelD_C h6 rfl rfl) rfl rfl, RelF_R (RelF_C h7 rfl rfl) rfl rfl, RelX_R (RelX_C h8 rfl rfl rfl rfl) rfl rfl rfl rfl rfl rfl, h9⟩
      · exact ⟨b1, b2, by omega, b4, b5, b6, b7, f1, f2, b10, fun e d h1 h2 h3 => b11 e d (by omega) h2 h3, b12⟩
      · intro j hj
        obtain ⟨g1, g2, g3, g4, g5, g6, g7, g8, g9, g10, g11, g12, g13, g14, g15, g16, g17, g18, g19⟩ := hL j hj
        exact ⟨g1, g2, g3, g4, g5, g6, g7, g8, g9, g10, g11, g12, g13, g14, g15, g16, g17, fun q => by obtain ⟨s, s1, s2, s3⟩ := g18 q; exact ⟨s, s1, by omega, s3⟩, g19⟩
      · obtain ⟨m, h5⟩ := h5
        exact ⟨m, RelS_R (RelS_C h5 rfl (fun _ _ => rfl)) rfl rfl rfl rfl rfl rfl rfl⟩
    · rw [b9, e8, nI_eq (by omega) (by decide)] at c2
      omega
  · rw [b8, e8, nI_ltI (by omega) (by decide)] at c1
    intro M2 e2
    subst e2
    refine ⟨fun c2 M3 e3 => ?_, fun c2 => Nx_same ⟨⟨w, x, hB', hL⟩, h3, h4, h5, h6, h7, h8, h9⟩⟩
    rw [b9, e8, nI_eq (by omega) (by decide)] at c2
    omega
/-- is it a number below m? -/
theorem z_withinN {n m : Nat} {M : Sg} {a : Int32} {Q : Sg → Int32 → Prop} (hm : m < 2 ^ 31) (h1 : a < 0 ∨ nI m ≤ a → Q M 0) (h2 : ∀ j, j < m → a = nI j → Q M 1) : wX8_isWithin n M a (0 : Int32) (nI m - (1 : Int32)) Q := by
  cases m with
  | zero =>
    refine z_within (fun _ => h1 ?_) (fun c1 c2 => ?_)
    · rcases z_ix a (k := 0) (by decide) with q | ⟨j, hj, _⟩
      · exact q
      · exact absurd hj (Nat.not_lt_zero j)
    · have := Int32.le_trans c1 c2
      exact absurd this (by decide)
  | succ m =>
    rw [show nI (m + 1) - (1 : Int32) = nI m from nI_pred m]
    refine z_within (fun c => ?_) (fun c1 c2 => ?_)
    · rcases z_ix a (k := m + 1) (by omega) with q | ⟨j, hj, rfl⟩
      · exact h1 q
      · rcases c with q | q
        · exact absurd q (nI_pos (by omega))
        · rw [nI_ltI (by omega) (by omega)] at q
          omega
    · rcases z_ix a (k := m + 1) (by omega) with (q | q) | ⟨j, hj, e⟩
      · exact absurd q (Int32.not_lt.mpr c1)
      · have := Int32.le_trans q c2
        rw [nI_leI (by omega) (by omega)] at this
        omega
      · exact h2 j hj e
/-- the reference's way to ask it -/
theorem z_ltN {m : Nat} {a : Int32} (h : a < 0 ∨ nI m ≤ a) (h0 : ¬ a < 0) : ¬ a < nI m := fun q => h.elim h0 (fun z => absurd q (Int32.not_lt.mpr z))
theorem op_part {i n : Nat} {C R : Sg} {a : Int32} (h : Rel i n C R) : wX8_part n C a (fun C' r => wX9_part_ R a (Nx i n C' r)) := by
  have h0 := Rel_thr (v := 0) h
  obtain ⟨d, d1, d2, d3, d4⟩ := h0.2.2.2.2.1
  unfold wX8_part wX3_drawnStreet
  rw [d2]
  refine z_withinN (by omega) (fun c => ?_) (fun j hj e => ?_)
  · refine ⟨fun _ => ?_, fun q => absurd rfl q⟩
    intro M1 e1
    subst e1
    exact ⟨fun _ => Nx_same h0, fun c1 => ⟨fun c2 => absurd (by rw [← d3]; exact c2) (z_ltN c c1), fun _ => Nx_same h0⟩⟩
  · subst e
    have hin : vp_in (nI j) 8 := vp_in_nI (by omega) (by decide)
    refine ⟨fun q => absurd q (by decide), fun _ => ⟨hin, ?_⟩⟩
    intro M1 e1
    subst e1
    refine ⟨fun c => absurd c (nI_pos (by omega)), fun _ => ⟨fun _ => ⟨hin, ?_, Rel_mono h0 (Nat.le_succ i)⟩, fun c => absurd (by rw [d3]; exact nI_lt hj (by omega)) c⟩⟩
    rw [nI_clamp (by omega)]
    exact (d4 j hj).symm
theorem op_close {i n : Nat} {C R : Sg} {a b : Int32} (h : Rel i n C R) : wX8_close n C a b (fun C' r => wX9_close R a b (Nx i n C' r)) := by
  have h0 := Rel_thr (v := 0) h
  obtain ⟨m, hS⟩ := h0.2.2.2.1
  obtain ⟨s1, s2, s3, s4, s5, s6, s7⟩ := id hS
  unfold wX8_close wX3_setClosed
  rw [s2]
  refine z_withinN (by omega) (fun c => ?_) (fun j hj e => ?_)
  · refine ⟨fun q => absurd rfl q, fun _ => ⟨rfl, ?_⟩⟩
    intro M1 e1
    subst e1
    exact ⟨fun _ => Nx_same h0, fun c1 => ⟨fun c2 => absurd (by rw [← s3]; exact c2) (z_ltN c c1), fun _ => Nx_same h0⟩⟩
  · subst e
    have hin : vp_in (nI j) 24 := vp_in_nI (by omega) (by decide)
    refine ⟨fun _ => ⟨hin, fun M3 e3 => ⟨rfl, ?_⟩⟩, fun q => absurd q (by decide)⟩
    subst e3
    intro M1 e1
    subst e1
    refine ⟨fun c => absurd c (nI_pos (by omega)), fun _ => ⟨fun _ => ⟨hin, fun M2 e2 => ?_⟩, fun c => absurd (by rw [s3]; exact nI_lt hj (by omega)) c⟩⟩
    subst e2
    refine ⟨rfl, ?_⟩
    rw [nI_clamp (by omega)]
    obtain ⟨⟨w, x, h1, h2⟩, h3, h4, -, h6, h7, h8, h9⟩ := Rel_mono h0 (Nat.le_succ i)
    refine ⟨⟨w, x, RelB_R (RelB_C h1 rfl rfl rfl rfl rfl) rfl rfl rfl rfl rfl, RelL_R (RelL_C h2 rfl rfl rfl rfl rfl rfl rfl rfl rfl rfl rfl rfl) rfl rfl rfl rfl rfl rfl rfl rfl rfl rfl rfl⟩, RelK_R (RelK_C h3 rfl) rfl rfl, RelP_R (RelP_C h4 rfl rfl rfl rfl) rfl rfl rfl, ⟨m, s1, s2, s3, s4, fun k hk => ?_, s6, ?_⟩, RelD_R (RelD_C h6 rfl rfl) rfl rfl, RelF_R (RelF_C h7 rfl rfl) rfl rfl, RelX_R (RelX_C h8 rfl rfl rfl rfl) rfl rfl rfl rfl rfl rfl, h9⟩
    · show upd (gA C 23) j _ k = upd (gA (sI R 0 0) 50) j _ k
      by_cases e : k = j
      · subst e; rw [pk_us, pk_us]
      · rw [pk_un e, pk_un e]; exact s5 k hk
    · intro c hc
      have e1 : gA (sA C 23 j (vp_nar .boolean b)) (30 + c) = gA C (30 + c) := by rw [gA_sA, if_neg (by omega)]
      rw [e1]
      exact s7 c hc
