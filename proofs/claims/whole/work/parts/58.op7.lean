/-! feed -/
def byt (v : Int64) (j : Nat) : Int32 := (v >>> ((nI (8 * j)).toInt64 &&& 63)).toInt32 &&& (255 : Int32)
theorem z_amt1 : ∀ k, k < 64 → (((nI k).toInt64 &&& 63).toBitVec.smod 64).toNat = k := by decide +kernel
theorem z_amt2 : ∀ k, k < 64 → (((nI k).toInt64.toUInt64 &&& Int64.toUInt64 63).toBitVec % 64).toNat = k := by decide +kernel
theorem z_255 : ∀ i, i < 32 → (255 : Int32).toBitVec.getLsbD i = decide (i < 8) := by decide +kernel
theorem z_low (x : Int64) {i : Nat} (hi : i < 32) : x.toInt32.toBitVec.getLsbD i = x.toBitVec.getLsbD i := by
  show (x.toBitVec.signExtend 32).getLsbD i = _
  rw [BitVec.getLsbD_signExtend, decide_eq_true hi, Bool.true_and, if_pos (by omega)]
theorem z_byt (v : Int64) {j : Nat} (hj : j < 8) : ((v.toUInt64 >>> ((nI (8 * j)).toInt64.toUInt64 &&& Int64.toUInt64 63)).toInt64).toInt32 &&& (255 : Int32) = byt v j := by
  unfold byt
  apply Int32.toBitVec_inj.mp
  apply BitVec.eq_of_getLsbD_eq
  intro i hi
  rw [Int32.toBitVec_and, Int32.toBitVec_and, BitVec.getLsbD_and, BitVec.getLsbD_and, z_255 i hi, z_low _ hi, z_low _ hi]
  by_cases h8 : i < 8
  · rw [decide_eq_true h8, Bool.and_true, Bool.and_true, Int64.toBitVec_shiftRight]
    show (v.toUInt64 >>> ((nI (8 * j)).toInt64.toUInt64 &&& Int64.toUInt64 63)).toBitVec.getLsbD i = (v.toBitVec.sshiftRight (((nI (8 * j)).toInt64 &&& 63).toBitVec.smod 64).toNat).getLsbD i
    rw [UInt64.toBitVec_shiftRight]
    show (v.toUInt64.toBitVec >>> (((nI (8 * j)).toInt64.toUInt64 &&& Int64.toUInt64 63).toBitVec % 64).toNat).getLsbD i = _
    rw [z_amt1 _ (by omega), z_amt2 _ (by omega), BitVec.getLsbD_ushiftRight, BitVec.getLsbD_sshiftRight, if_pos (by omega)]
    simp
    intro _
    omega
  · rw [decide_eq_false h8, Bool.and_false, Bool.and_false]
theorem z_byt255 (v : Int64) (j : Nat) : ∃ t, t < 256 ∧ byt v j = nI t := pk_andE _ 8 rfl
def sgn (v : Int32) : Prop := v = 10 ∨ (¬ v < 32 ∧ ¬ 126 < v)
theorem sgn_sign {v : Int64} {j : Nat} (h : sgn (byt v j)) : sign (byt v j) := by
  obtain ⟨t, ht, e⟩ := z_byt255 v j
  rw [e] at h ⊢
  rcases h with h | ⟨h1, h2⟩
  · exact Or.inl h
  · rw [show (32 : Int32) = nI 32 from rfl, nI_ltI (by omega) (by decide)] at h1
    rw [show (126 : Int32) = nI 126 from rfl, nI_ltI (by decide) (by omega)] at h2
    exact Or.inr ⟨t, by omega, by omega, rfl⟩
def ap (a l : Nat) (M : Sg) (v : Int32) : Sg := sI (sA M a (gI M l).toNatClampNeg v) l (gI M l + 1)
noncomputable def apS (a l : Nat) (M : Sg) (v : Int32) : Sg := @ite _ (sgn v ∧ ¬ (600 : Int32) ≤ gI M l) (Classical.propDecidable _) (ap a l M v) M
noncomputable def fd (a l : Nat) (v : Int64) : Nat → Sg → Sg
  | 0, M => M
  | j + 1, M => fd a l v j (apS a l M (byt v j))
theorem apS_t {a l : Nat} {M : Sg} {v : Int32} (h : sgn v) (h2 : ¬ (600 : Int32) ≤ gI M l) : apS a l M v = ap a l M v := if_pos ⟨h, h2⟩
theorem apS_f {a l : Nat} {M : Sg} {v : Int32} (h : ¬ (sgn v ∧ ¬ (600 : Int32) ≤ gI M l)) : apS a l M v = M := if_neg h
theorem z_m8 (j : Nat) : nI (8 * (j + 1)) + (-8 : Int32) = nI (8 * j) := by
  rw [show 8 * (j + 1) = 8 * j + 8 by omega, ← nI_add, Int32.add_assoc, show nI 8 + (-8 : Int32) = 0 from by decide, Int32.add_zero]
theorem z_layM {v : Int64} {Q : Sg → Prop} : ∀ (j : Nat) (M : Sg), j < 8 → (∃ t, t ≤ 600 ∧ gI M 2 = nI t) → Q (fd 1 2 v (j + 1) M) → ∃ f, vX9_lay_3 Q f M v (nI (8 * j)) := by
  intro j
  induction j with
  | zero =>
    intro M _ ⟨t, ht, et⟩ hq
    have last : ∀ M', M' = apS 1 2 M (byt v 0) → vX9_lay_69 (vX9_lay_3 Q 1) Q M' v (nI (8 * 0)) := by
      intro M' e y ey
      subst e
      rw [ey]
      exact ⟨fun _ => hq, fun c => absurd (by decide) c⟩
    have app : sgn (byt v 0) → vX9_lay_38 (vX9_lay_3 Q 1) Q M v (nI (8 * 0)) (byt v 0) := by
      intro hs
      refine ⟨fun c => last _ (apS_f (fun z => z.2 c)).symm, fun c => ⟨?_, fun M1 e1 M2 e2 => last _ (by rw [apS_t hs c, e2, e1]; rfl)⟩⟩
      rw [et] at c ⊢
      rw [show (600 : Int32) = nI 600 from rfl, nI_leI (by decide) (by omega)] at c
      exact vp_in_nI (by omega) (by decide)
    refine ⟨2, fun c => absurd c (by decide), fun _ y ey => ?_⟩
    have ey : y = byt v 0 := ey
    subst ey
    refine ⟨fun c => app (Or.inl c), fun c => ⟨fun c2 => last _ (apS_f (fun z => z.1.elim c (fun z => z.1 c2))).symm, fun c2 => ⟨fun c3 => last _ (apS_f (fun z => z.1.elim c (fun z => z.2 c3))).symm, fun c3 => app (Or.inr ⟨c2, c3⟩)⟩⟩⟩
  | succ j ih =>
    intro M hj ⟨t, ht, et⟩ hq
    have ht' : ∃ t, t ≤ 600 ∧ gI (apS 1 2 M (byt v (j + 1))) 2 = nI t := by
      by_cases z : sgn (byt v (j + 1)) ∧ ¬ (600 : Int32) ≤ gI M 2
      · rw [apS_t z.1 z.2]
        have c := z.2
        rw [et, show (600 : Int32) = nI 600 from rfl, nI_leI (by decide) (by omega)] at c
        exact ⟨t + 1, by omega, by show gI M 2 + 1 = _; rw [et, nI_1]⟩
      · rw [apS_f z]; exact ⟨t, ht, et⟩
    obtain ⟨f, hf⟩ := ih (apS 1 2 M (byt v (j + 1))) (by omega) ht' hq
    have last : ∀ M', M' = apS 1 2 M (byt v (j + 1)) → vX9_lay_69 (vX9_lay_3 Q f) Q M' v (nI (8 * (j + 1))) := by
      intro M' e y ey
      subst e
      rw [ey, z_m8]
      exact hf
    have app : sgn (byt v (j + 1)) → vX9_lay_38 (vX9_lay_3 Q f) Q M v (nI (8 * (j + 1))) (byt v (j + 1)) := by
      intro hs
      refine ⟨fun c => last _ (apS_f (fun z => z.2 c)).symm, fun c => ⟨?_, fun M1 e1 M2 e2 => last _ (by rw [apS_t hs c, e2, e1]; rfl)⟩⟩
      rw [et] at c ⊢
      rw [show (600 : Int32) = nI 600 from rfl, nI_leI (by decide) (by omega)] at c
      exact vp_in_nI (by omega) (by decide)
    refine ⟨f + 1, fun c => absurd c (nI_pos (by omega)), fun _ y ey => ?_⟩
    have ey : y = byt v (j + 1) := ey
    subst ey
    refine ⟨fun c => app (Or.inl c), fun c => ⟨fun c2 => last _ (apS_f (fun z => z.1.elim c (fun z => z.1 c2))).symm, fun c2 => ⟨fun c3 => last _ (apS_f (fun z => z.1.elim c (fun z => z.2 c3))).symm, fun c3 => app (Or.inr ⟨c2, c3⟩)⟩⟩⟩
theorem z_chr (v : Int64) (j : Nat) : vp_nar .char (((byt v j).toUInt32 % 65536).toInt32) = byt v j := by
  rw [pk_vc]
  obtain ⟨t, ht, e⟩ := z_byt255 v j
  rw [e, pk_char, pk_tn (by omega), Nat.mod_eq_of_lt (by omega)]
theorem z_layC {n : Nat} {v : Int64} {Q : Sg → Prop} : ∀ (j : Nat) (M : Sg), j < 8 → (∃ t, t ≤ 600 ∧ gI M 14 = nI t) → Q (fd 8 14 v (j + 1) M) → ∃ f, vX4_addEight_3 n Q f M v (nI (8 * j)) := by
  intro j
  induction j with
  | zero =>
    intro M hj ⟨t, ht, et⟩ hq
    have last : ∀ M', M' = apS 8 14 M (byt v 0) → vX4_addEight_80 n (vX4_addEight_3 n Q 1) Q M' v (nI (8 * 0)) := by
      intro M' e y ey
      subst e
      rw [ey]
      exact ⟨fun _ => hq, fun c => absurd (by decide) c⟩
    have app : sgn (byt v 0) → vX4_addEight_41 n (vX4_addEight_3 n Q 1) Q M v (nI (8 * 0)) (byt v 0) 1 := by
      intro hs
      refine ⟨fun c => absurd c (by decide), fun _ => ⟨fun c => last _ (apS_f (fun z => z.2 c)).symm, fun c => ⟨?_, fun M1 e1 M2 e2 => last _ (by rw [apS_t hs c, e2, e1, z_chr]; rfl)⟩⟩⟩
      rw [et] at c ⊢
      rw [show (600 : Int32) = nI 600 from rfl, nI_leI (by decide) (by omega)] at c
      exact vp_in_nI (by omega) (by decide)
    refine ⟨2, fun c => absurd c (by decide), fun _ y ey => ?_⟩
    rw [z_byt v (by omega)] at ey
    subst ey
    refine ⟨fun c => app (Or.inl c), fun c => z_within (fun c2 => ⟨fun _ => ⟨fun _ => last _ (apS_f (fun z => ?_)).symm, fun q => absurd rfl q⟩, fun q => absurd rfl q⟩) (fun c2 c3 => ⟨fun q => absurd q (by decide), fun _ => app (Or.inr ⟨Int32.not_lt.mpr c2, Int32.not_lt.mpr c3⟩)⟩)⟩
    exact z.1.elim c (fun z => c2.elim z.1 z.2)
  | succ j ih =>
    intro M hj ⟨t, ht, et⟩ hq
    have ht' : ∃ t, t ≤ 600 ∧ gI (apS 8 14 M (byt v (j + 1))) 14 = nI t := by
      by_cases z : sgn (byt v (j + 1)) ∧ ¬ (600 : Int32) ≤ gI M 14
      · rw [apS_t z.1 z.2]
        have c := z.2
        rw [et, show (600 : Int32) = nI 600 from rfl, nI_leI (by decide) (by omega)] at c
        exact ⟨t + 1, by omega, by show gI M 14 + 1 = _; rw [et, nI_1]⟩
      · rw [apS_f z]; exact ⟨t, ht, et⟩
    obtain ⟨f, hf⟩ := ih (apS 8 14 M (byt v (j + 1))) (by omega) ht' hq
    have last : ∀ M', M' = apS 8 14 M (byt v (j + 1)) → vX4_addEight_80 n (vX4_addEight_3 n Q f) Q M' v (nI (8 * (j + 1))) := by
      intro M' e y ey
      subst e
      rw [ey, z_m8]
      exact hf
    have app : sgn (byt v (j + 1)) → vX4_addEight_41 n (vX4_addEight_3 n Q f) Q M v (nI (8 * (j + 1))) (byt v (j + 1)) 1 := by
      intro hs
      refine ⟨fun c => absurd c (by decide), fun _ => ⟨fun c => last _ (apS_f (fun z => z.2 c)).symm, fun c => ⟨?_, fun M1 e1 M2 e2 => last _ (by rw [apS_t hs c, e2, e1, z_chr]; rfl)⟩⟩⟩
      rw [et] at c ⊢
      rw [show (600 : Int32) = nI 600 from rfl, nI_leI (by decide) (by omega)] at c
      exact vp_in_nI (by omega) (by decide)
    refine ⟨f + 1, fun c => absurd c (nI_pos (by omega)), fun _ y ey => ?_⟩
    rw [z_byt v (by omega)] at ey
    subst ey
    refine ⟨fun c => app (Or.inl c), fun c => z_within (fun c2 => ⟨fun _ => ⟨fun _ => last _ (apS_f (fun z => ?_)).symm, fun q => absurd rfl q⟩, fun q => absurd rfl q⟩) (fun c2 c3 => ⟨fun q => absurd q (by decide), fun _ => app (Or.inr ⟨Int32.not_lt.mpr c2, Int32.not_lt.mpr c3⟩)⟩)⟩
    exact z.1.elim c (fun z => c2.elim z.1 z.2)
theorem Rel_ap {i n : Nat} {C R : Sg} {v : Int64} {j : Nat} (h : Rel i n C R) : Rel i n (apS 8 14 C (byt v j)) (apS 1 2 R (byt v j)) := by
  obtain ⟨⟨w, x, h1, h2⟩, h3, h4, ⟨m, h5⟩, h6, ⟨t, t1, t2, t3, t4⟩, h8, h9⟩ := id h
  by_cases z : sgn (byt v j) ∧ ¬ (600 : Int32) ≤ nI t
  · rw [apS_t z.1 (by rw [t2]; exact z.2), apS_t z.1 (by rw [t3]; exact z.2)]
    have c := z.2
    rw [show (600 : Int32) = nI 600 from rfl, nI_leI (by decide) (by omega)] at c
    unfold ap
    rw [t2, t3, nI_clamp (by omega), nI_1]
    refine ⟨⟨w, x, RelB_R (RelB_C h1 rfl rfl rfl rfl rfl) rfl rfl rfl rfl rfl, RelL_R (RelL_C h2 rfl rfl rfl rfl rfl rfl rfl rfl rfl rfl rfl rfl) rfl rfl rfl rfl rfl rfl rfl rfl rfl rfl rfl⟩, RelK_R (RelK_C h3 rfl) rfl rfl, RelP_R (RelP_C h4 rfl rfl rfl rfl) rfl rfl rfl, ⟨m, RelS_R (RelS_C h5 rfl (fun a q => by show gA (sA C 8 t _) a = _; rw [gA_sA, if_neg (by omega)])) rfl rfl rfl rfl rfl rfl rfl⟩, RelD_R (RelD_C h6 rfl rfl) rfl rfl, ⟨t + 1, by omega, rfl, rfl, fun k hk => ?_⟩, RelX_R (RelX_C h8 rfl rfl rfl rfl) rfl rfl rfl rfl rfl rfl, h9⟩
    show upd (gA C 8) t _ k = upd (gA R 1) t _ k ∧ sign (upd (gA R 1) t _ k)
    by_cases q : k = t
    · subst q; rw [pk_us, pk_us]; exact ⟨rfl, sgn_sign z.1⟩
    · rw [pk_un q, pk_un q]; exact t4 k (by omega)
  · rw [apS_f (by rw [t2]; exact z), apS_f (by rw [t3]; exact z)]
    exact h
theorem Rel_fd {i n : Nat} {v : Int64} : ∀ (j : Nat) {C R : Sg}, Rel i n C R → Rel i n (fd 8 14 v j C) (fd 1 2 v j R) := by
  intro j
  induction j with
  | zero => exact fun h => h
  | succ j ih => exact fun h => ih (Rel_ap h)
theorem Rel_tp {i n : Nat} {C R : Sg} (h : Rel i n C R) : (∃ t, t ≤ 600 ∧ gI C 14 = nI t) ∧ (∃ t, t ≤ 600 ∧ gI R 2 = nI t) ∧ gI R 2 = gI C 14 := by
  obtain ⟨t, t1, t2, t3, t4⟩ := h.2.2.2.2.2.1
  exact ⟨⟨t, t1, t2⟩, ⟨t, t1, t3⟩, t3.trans t2.symm⟩
theorem op_feed {i n : Nat} {C R : Sg} {a b c : Int64} (h : Rel i n C R) : wX8_feed n C a b c (fun C' r => wX9_feed R a b c (Nx i n C' r)) := by
  have h0 := Rel_thr (v := 0) h
  have h1 := Rel_fd (v := a) 8 h0
  have h2 := Rel_fd (v := b) 8 h1
  have h3 := Rel_fd (v := c) 8 h2
  refine z_layC 7 C (by decide) (Rel_tp h0).1 (z_layC 7 _ (by decide) (Rel_tp h1).1 (z_layC 7 _ (by decide) (Rel_tp h2).1 ?_))
  intro M1 e1
  subst e1
  exact z_layM 7 _ (by decide) (Rel_tp h0).2.1 (z_layM 7 _ (by decide) (Rel_tp h1).2.1 (z_layM 7 _ (by decide) (Rel_tp h2).2.1 ⟨(Rel_tp h3).2.2, Rel_mono h3 (Nat.le_succ i)⟩))
