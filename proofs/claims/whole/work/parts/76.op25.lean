/-! texts: a whole line and a whole text on the reference's side -/
theorem n_isSign {tok pls : Nat → Nat} {N pos c : Nat} {M : Sg} {Q : Sg → Int32 → Prop} (h : MB tok pls N pos M) (hc : c ∈ sgs) (h1 : tok pos = sgT (nI c) → Q M 1) (h0 : ¬ tok pos = sgT (nI c) → Q M 0) : wX9_isSign M (nI c) Q := by
  have hb : ∀ c ∈ sgs, c < 2 ^ 31 := by decide
  obtain ⟨i1, i2⟩ := mb_in h
  obtain ⟨-, -, -, h8, ⟨-, -, -, -, t5⟩, -⟩ := h
  have e := t5 c hc
  unfold wX9_isSign
  rw [i2, lg_cmp_eq, nI_l (hb c hc)]
  exact ⟨fun q => absurd h8 q, fun _ => ⟨i1, fun q => h0 (fun z => q (e.mpr z).1), fun q => ⟨i1, fun q2 => h0 (fun z => q2 (e.mpr z).2), fun q2 => h1 (e.mp ⟨q, q2⟩)⟩⟩⟩
section LineG
variable {tok pls : Nat → Nat} {N nx pos : Nat} {M0 M M7 M' : Sg} {Q : Sg → Prop} {ls : List (Nat × List Nat)} {cs : List Nat}
/-- where a line's codes begin: what has changed since the line began -/
def M7R (nx : Nat) (x v b : Nat) (M M7 : Sg) : Prop := ag [7, 18] [11, 12, 19, 20, 21] M M7 ∧ gJ M7 6 = gJ M 6 ∧ gA M7 11 = upd (gA M 11) x (nI v) ∧ gA M7 12 = upd (gA M 12) x (nI b)
/-- the end of a line without a fault -/
theorem l219_ok {p v : Nat} (hT : TM tok pls N nx M0) (h : RLn N nx M0 pos ls M) (hlt : ls.length < 16) (h7 : M7R nx (16 * nx + ls.length) v (660 * nx + ((cat ls).length + ls.length)) M M7) (hM' : MS N nx ((cat ls).length + ls.length) M7 0 p cs (fun _ _ => 0) M') (hln : pos + 3 + cs.length ≤ p) (h1 : tok p = 10015 → ∀ M'', RLn N nx M0 (p + 1) (ls ++ [(v, cs)]) M'' → Q M'') (h0 : ¬ tok p = 10015 → ∀ M'', RF N nx pls M0 p 1 M'' → Q M'') : vX9_line_219 Q M' := by
  obtain ⟨a, h6, i7, i17, h10, f10, f11, f13, hl, hcl, hn, hl16⟩ := id h
  obtain ⟨b1, b2, b3, b4⟩ := h7
  have hTM := TM_ag hT a h6 (by decide) (by decide) (by decide) (by decide)
  have hT7 := TM_ag hTM b1 b2 (by decide) (by decide) (by decide) (by decide)
  have hT' := TM_ag hT7 hM'.1 hM'.2.1 (by decide) (by decide) (by decide) (by decide)
  obtain ⟨ei, e1, e2⟩ := ms_ix hT7 hM'
  obtain ⟨c1, c2, c3, c4, c5, c6, c7, c8, c9, c10, c11⟩ := id hM'
  have hnx : nx ≤ 1 := hT.2.2.2.2.2.2.1
  have h16 : gI M' 16 = nI nx := hT'.2.2.2.2.2.1
  have hn2 : vp_in (nI nx) 2 := vp_in_nI (by omega) (by decide)
  have hB : MB tok pls N p (emM M' 0 0) := ⟨c9, hT.2.1, c3, hT'.2.2.2.2.2.2.2, (hT'.2.2.1 p c9).1, (hT'.2.2.1 p c9).2.1, (hT'.2.2.1 p c9).2.2.2, hT'.2.2.2.2.1⟩
  have em : emM M' 0 0 = sI (sA (sA M' 13 (660 * nx + ((cat ls).length + ls.length) + cs.length) 0) 14 (660 * nx + ((cat ls).length + ls.length) + cs.length) 0) 17 (gI M' 17 + 1) := by
    unfold emM
    rw [ei, nI_clamp (by omega)]
  have aT : ag [7, 17, 18] [10, 11, 12, 13, 14, 19, 20, 21] M0 M' := ag_tr a (ag_tr (ag_mono b1 (by simp) (by simp)) (ag_mono c1 (by simp) (by simp)))
  have r10 : gA M' 10 = gA M 10 := (c1.2.1 10 (by decide)).trans (b1.2.1 10 (by decide))
  have r11 : gA M' 11 = upd (gA M 11) (16 * nx + ls.length) (nI v) := (c1.2.1 11 (by decide)).trans b3
  have r12 : gA M' 12 = upd (gA M 12) (16 * nx + ls.length) (nI (660 * nx + ((cat ls).length + ls.length))) := (c1.2.1 12 (by decide)).trans b4
  have r13 : ∀ k, k < 660 * nx + ((cat ls).length + ls.length) ∨ 660 * nx + 660 ≤ k → gA M' 13 k = gA M 13 k ∧ gA M' 14 k = gA M 14 k := fun k hk => by
    have := c7 k hk
    rw [b1.2.1 13 (by decide), b1.2.1 14 (by decide)] at this
    exact this
  have f11' : fr11 nx M0 M' := fun k hk => by
    rw [r11, r12, pk_un (by omega), pk_un (by omega)]
    exact f11 k hk
  have f13' : ∀ v1 v2 : Int32, ∀ k, k < 660 * nx ∨ 660 * nx + 660 ≤ k → upd (gA M' 13) (660 * nx + ((cat ls).length + ls.length) + cs.length) v1 k = gA M0 13 k ∧ upd (gA M' 14) (660 * nx + ((cat ls).length + ls.length) + cs.length) v2 k = gA M0 14 k := fun v1 v2 k hk => by
    rw [pk_un (by omega), pk_un (by omega), (r13 k (by omega)).1, (r13 k (by omega)).2]
    exact f13 k hk
  refine m_emit hT7 hM' (n_isSign (c := 59) hB (by decide) (fun q => ⟨fun c => absurd c (by decide), fun _ M9 e9 => ?_⟩) (fun q => ⟨fun _ => n_wrong (k := 1) hB ?_, fun c => absurd rfl c⟩))
  · have q' : tok p = 10015 := q.trans (by decide)
    have i16 : gI M9 16 = nI nx := by rw [e9]; exact h16
    show vp_in (gI M9 16) 2 ∧ vp_in (gI M9 16) 2 ∧ ∀ (M_5 : Sg), M_5 = sA M9 10 (gI M9 16).toNatClampNeg (gA M9 10 (gI M9 16).toNatClampNeg + 1) → Q M_5
    rw [i16, nI_clamp (by omega)]
    refine ⟨hn2, hn2, fun M10 e10 => h1 q' M10 ?_⟩
    have e7 : gI (emM M' 0 0) 7 + 1 = nI (p + 1) := by show gI M' 7 + 1 = _; rw [c3, nI_1]
    rw [e7, em] at e9
    have s10 : gA M9 10 nx + 1 = nI (ls.length + 1) := by
      rw [e9]
      show gA M' 10 nx + 1 = _
      rw [r10, h10, nI_1]
    rw [s10] at e10
    subst e9 e10
    have hlen : (ls ++ [(v, cs)]).length = ls.length + 1 := by rw [List.length_append, List.length_singleton]
    have hcat : (cat (ls ++ [(v, cs)])).length = (cat ls).length + cs.length := by rw [cat_s, List.length_append]
    refine ⟨ag_sA (ag_sI (ag_sI (ag_sA (ag_sA aT (by decide)) (by decide)) (by decide)) (by decide)) (by decide), c2.trans (b2.trans h6), rfl, ?_, ?_, fun j hj => ?_, f11', f13' 0 0, fun i hi => ?_, by rw [hcat]; omega, TM_nx hT c9 (by omega), by rw [hlen]; omega⟩
    · show gI M' 17 + 1 = _
      rw [c4, nI_1, hcat, hlen]
      congr 1
      omega
    · show upd (gA M' 10) nx (nI (ls.length + 1)) nx = _
      rw [pk_us, hlen]
    · show upd (gA M' 10) nx _ j = _
      rw [pk_un hj, r10]
      exact f10 j hj
    · rw [hlen] at hi
      show gA M' 11 _ = _ ∧ gA M' 12 _ = _ ∧ (∀ j, _ → upd (gA M' 13) _ 0 _ = _ ∧ upd (gA M' 14) _ 0 _ = _) ∧ upd (gA M' 13) _ 0 _ = 0
      rw [z_getDp, r11, r12]
      by_cases z : i < ls.length
      · rw [if_pos z, pk_un (by omega), pk_un (by omega), List.take_append_of_le_length (by omega), List.take_append_of_le_length (by omega)]
        obtain ⟨g1, g2, g3, g4⟩ := hl i z
        have t1 := cat_take z
        have t2 := cat_le ls (i + 1)
        refine ⟨g1, g2, fun j hj => ?_, ?_⟩
        · rw [pk_un (by omega), pk_un (by omega), (r13 _ (by omega)).1, (r13 _ (by omega)).2]
          exact g3 j hj
        · rw [pk_un (by omega), (r13 _ (by omega)).1]
          exact g4
      · have ez : i = ls.length := by omega
        subst ez
        rw [if_neg z, if_pos rfl, pk_us, pk_us, List.take_append_of_le_length (Nat.le_refl _), List.take_of_length_le (Nat.le_refl _), List.take_of_length_le (by omega), hcat]
        refine ⟨rfl, by rw [Nat.add_assoc], fun j hj => ?_, ?_⟩
        · have hj : j < cs.length := hj
          have := c6 j hj
          rw [show 660 * nx + (cat ls).length + ls.length + j = 660 * nx + ((cat ls).length + ls.length) + j by omega, pk_un (by omega), pk_un (by omega)]
          exact this
        · rw [show 660 * nx + ((cat ls).length + cs.length) + ls.length = 660 * nx + ((cat ls).length + ls.length) + cs.length by omega, pk_us]
  · have q' : ¬ tok p = 10015 := fun z => q (z.trans (by decide))
    show vp_in (gI M' 16) 2 ∧ vp_in (gI M' 16) 2 ∧ ∀ (M_5 : Sg), M_5 = sA (sI (emM M' 0 0) 8 _) 10 (gI M' 16).toNatClampNeg (gA M' 10 (gI M' 16).toNatClampNeg + 1) → Q M_5
    rw [h16, nI_clamp (by omega)]
    refine ⟨hn2, hn2, fun M10 e10 => h0 q' M10 ?_⟩
    rw [em] at e10
    subst e10
    refine ⟨ag_sA (ag_sI (ag_sI (ag_sA (ag_sA (ag_mono aT (by simp) (by simp)) (by decide)) (by decide)) (by decide)) (by decide)) (by decide), rfl, fun j hj => ?_, f11', f13' 0 0, c9, by decide, by decide⟩
    show upd (gA M' 10) nx _ j = _
    rw [pk_un hj, r10]
    exact f10 j hj
theorem m_line {r : PL} (hT : TM tok pls N nx M0) (h : RLn N nx M0 pos ls M) (hG : PLine tok ls.length pos r) (hf : ∀ p k, r = .inl (p, k) → ∀ M', RF N nx pls M0 p k M' → Q M') (hok : ∀ p l, r = .inr (p, l) → ∀ M', RLn N nx M0 p (ls ++ [l]) M' → Q M') : wX9_line M Q := by
  obtain ⟨a, h6, i7, i17, h10, f10, f11, f13, hl, hcl, hn, hl16⟩ := id h
  have hTM := TM_ag hT a h6 (by decide) (by decide) (by decide) (by decide)
  have hB := TM_MB hTM i7 hn
  have hN := hT.2.1
  have hnx : nx ≤ 1 := hT.2.2.2.2.2.2.1
  have h8 : gI M 8 = 0 := hTM.2.2.2.2.2.2.2
  have h16 : gI M 16 = nI nx := hTM.2.2.2.2.2.1
  have hn2 : vp_in (nI nx) 2 := vp_in_nI (by omega) (by decide)
  have rfM : ∀ k, 1 ≤ k → k ≤ 5 → RF N nx pls M0 pos k (sI M 8 (nI (k + 16 * pls pos))) := fun k k1 k5 => ⟨ag_sI (ag_mono a (by simp) (by simp)) (by decide), rfl, f10, f11, f13, hn, k1, k5⟩
  unfold wX9_line
  refine n_isWord (k := 0) hB (by decide) (fun q => ⟨fun _ => ?_, fun c => absurd c (by decide)⟩) (fun q => ⟨fun c => absurd rfl c, fun _ => n_wrong (k := 1) hB ?_⟩)
  · have q' : tok pos = 10011 := q.trans (by decide)
    rw [h16, nI_clamp (by omega), h10, show (16 : Int32) = nI 16 from rfl, nI_eq (by omega) (by omega)]
    refine ⟨hn2, fun c => ?_, fun c => n_wrong (k := 5) hB (l35_bad (rf_ne hT hn (by decide) (by decide)).2 (hf pos 5 ?_ _ (rfM 5 (by decide) (by decide))))⟩
    · have lt : ls.length < 16 := by omega
      have hG3 : (9999 < tok (pos + 1) ∧ r = .inl (pos + 1, 1)) ∨ (99 < tok (pos + 1) ∧ tok (pos + 1) ≤ 9999 ∧ r = .inl (pos + 1, 4)) ∨ (tok (pos + 1) ≤ 99 ∧ ((¬ tok (pos + 2) = 10012 ∧ r = .inl (pos + 2, 1)) ∨ (tok (pos + 2) = 10012 ∧ ∃ r', PCond tok 7 0 (pos + 3) r' ∧ ((∃ e, r' = .inl e ∧ r = .inl e) ∨ ∃ p cs, r' = .inr (p, cs) ∧ ((tok p = 10015 ∧ r = .inr (p + 1, (tok (pos + 1), cs))) ∨ (¬ tok p = 10015 ∧ r = .inl (p, 1))))))) := by
        rcases hG with ⟨z, -⟩ | ⟨-, z, -⟩ | ⟨-, -, z⟩
        · exact absurd q' z
        · exact absurd lt z
        · exact z
      have hn1 : pos + 1 < N := TM_nx hT hn (by omega)
      refine ⟨fun _ M1 e1 => ?_, fun c => absurd (by rw [h8]; decide) c⟩
      rw [i7, nI_1] at e1
      subst e1
      have hT1 : TM tok pls N nx (sI M 7 (nI (pos + 1))) := TM_ag hTM (ag_sI (I := [7]) (A := []) ag_rf (by decide)) rfl (by simp) (by simp) (by simp) (by simp)
      have hB1 := TM_MB (pos := pos + 1) hT1 rfl hn1
      obtain ⟨j1, j2⟩ := mb_in hB1
      obtain ⟨⟨t1, t2, -⟩, -, t6, t7⟩ := hT1.2.2.1 (pos + 1) hn1
      have v16 : gI (sI M 7 (nI (pos + 1))) 16 = nI nx := h16
      have v10 : gA (sI M 7 (nI (pos + 1))) 10 nx = nI ls.length := h10
      rw [v16, nI_clamp (by omega), v10]
      refine ⟨hn2, fun x ex => ⟨j1, ?_⟩⟩
      rw [show (16 : Int32) = nI 16 from rfl, pk_mul, nI_add] at ex
      subst ex
      rw [j2, lg_cmp_le]
      have c620 : ∀ M', gI M' 17 = gI M 17 → ∃ c, c ≤ 620 ∧ gI M' 17 = nI c := fun M' e => ⟨(cat ls).length + ls.length, by omega, e.trans i17⟩
      have bad : ∀ k, 1 ≤ k → k ≤ 5 → r = .inl (pos + 1, k) → vX9_line_113 Q (sI (sI M 7 (nI (pos + 1))) 8 (nI (k + 16 * pls (pos + 1)))) (nI (16 * nx + ls.length)) := fun k k1 k5 er => by
        have hR : RF N nx pls M0 (pos + 1) k (sI (sI M 7 (nI (pos + 1))) 8 (nI (k + 16 * pls (pos + 1)))) := ⟨ag_sI (ag_sI (ag_mono a (by simp) (by simp)) (by decide)) (by decide), rfl, f10, f11, f13, hn1, k1, k5⟩
        exact ⟨fun c => absurd c (rf_ne hT hn1 k1 k5).2, fun _ => l139_bad hT hR (by omega) (by omega) (c620 _ rfl) (hf (pos + 1) k er)⟩
      refine ⟨fun s2 => ⟨j1, fun le => ?_, fun gt => n_wrong (k := 4) hB1 (bad 4 (by decide) (by decide) ?_)⟩, fun s2 => n_wrong (k := 1) hB1 (bad 1 (by decide) (by decide) ?_)⟩
      · have tv := t2 (t1.mp s2)
        have t99 := t1.mp s2
        rw [tv, show (99 : Int64) = lN 99 from rfl, lN_le (by omega) (by decide)] at le
        have hG4 : (¬ tok (pos + 2) = 10012 ∧ r = .inl (pos + 2, 1)) ∨ (tok (pos + 2) = 10012 ∧ ∃ r', PCond tok 7 0 (pos + 3) r' ∧ ((∃ e, r' = .inl e ∧ r = .inl e) ∨ ∃ p cs, r' = .inr (p, cs) ∧ ((tok p = 10015 ∧ r = .inr (p + 1, (tok (pos + 1), cs))) ∨ (¬ tok p = 10015 ∧ r = .inl (p, 1))))) := by
          rcases hG3 with ⟨z, -⟩ | ⟨z, -⟩ | ⟨-, z⟩
          · omega
          · omega
          · exact z
        have hn2' : pos + 2 < N := TM_nx hT hn1 (by omega)
        refine ⟨fun _ => ⟨j1, ?_⟩, fun c => absurd (by show gI M 8 ≤ 0; rw [h8]; decide) c⟩
        rw [j2, tv, lN_i]
        refine ⟨vp_in_nI (by omega) (by decide), fun M2 e2 M3 e3 => ?_⟩
        rw [nI_clamp (by omega)] at e2
        have e7 : gI M2 7 + 1 = nI (pos + 2) := by rw [e2]; show nI (pos + 1) + 1 = _; rw [nI_1]
        rw [e7, e2] at e3
        have a3 : ag [7, 18] [11, 12, 19, 20, 21] M M3 := by rw [e3]; exact ag_sI (ag_sA (ag_sI ag_rf (by decide)) (by decide)) (by decide)
        have g3 : gJ M3 6 = gJ M 6 := by rw [e3]; rfl
        have hT3 := TM_ag hTM a3 g3 (by decide) (by decide) (by decide) (by decide)
        have k7 : gI M3 7 = nI (pos + 2) := by rw [e3]; rfl
        have k17 : gI M3 17 = gI M 17 := by rw [e3]; rfl
        have k11 : gA M3 11 = upd (gA M 11) (16 * nx + ls.length) (nI (tok (pos + 1))) := by rw [e3]; rfl
        have k12 : gA M3 12 = gA M 12 := by rw [e3]; rfl
        have hB3 := TM_MB (pos := pos + 2) hT3 k7 hn2'
        have rf3 : ∀ (v8 : Int32) (M4 : Sg), M4 = sI (sI M3 7 (gI M3 7 + 0)) 8 (nI (1 + 16 * pls (pos + 2))) → RF N nx pls M0 (pos + 2) 1 M4 := fun v8 M4 e4 => by
          subst e4
          refine ⟨ag_sI (ag_sI (ag_tr (ag_mono a (by simp) (by simp)) (ag_mono a3 (by simp) (by simp))) (by decide)) (by decide), rfl, fun j hj => ?_, fun j hj => ?_, fun j hj => ?_, hn2', by decide, by decide⟩
          · show gA M3 10 j = _
            rw [a3.2.1 10 (by decide)]; exact f10 j hj
          · show gA M3 11 j = _ ∧ gA M3 12 j = _
            rw [k11, k12, pk_un (by omega)]; exact f11 j hj
          · show gA M3 13 j = _ ∧ gA M3 14 j = _
            rw [a3.2.1 13 (by decide), a3.2.1 14 (by decide)]; exact f13 j hj
        unfold wX9_takeWord wX9_hasWord
        refine n_isWord (k := 1) hB3 (by decide) (fun qw => ⟨fun c => absurd c (by decide), fun _ M4 e4 => ⟨rfl, fun _ => ?_, fun c => absurd c (by decide)⟩⟩) (fun qw => ⟨fun _ M4 e4 => ⟨rfl, fun c => absurd rfl c, fun _ => ?_⟩, fun c => absurd rfl c⟩)
        · have qw' : tok (pos + 2) = 10012 := qw.trans (by decide)
          rw [k7, nI_1] at e4
          have hn3 : pos + 3 < N := TM_nx hT hn2' (by omega)
          obtain ⟨r', hR, hr⟩ : ∃ r', PCond tok 7 0 (pos + 3) r' ∧ ((∃ e, r' = .inl e ∧ r = .inl e) ∨ ∃ p cs, r' = .inr (p, cs) ∧ ((tok p = 10015 ∧ r = .inr (p + 1, (tok (pos + 1), cs))) ∨ (¬ tok p = 10015 ∧ r = .inl (p, 1)))) := by
            rcases hG4 with ⟨z, -⟩ | ⟨-, z⟩
            · exact absurd qw' z
            · exact z
          refine l139_tail (by omega) ?_
          have v4 : (660 : Int32) * gI M4 16 + gI M4 17 = nI (660 * nx + ((cat ls).length + ls.length)) := by
            rw [e4]
            show (660 : Int32) * gI M3 16 + gI M3 17 = _
            rw [hT3.2.2.2.2.2.1, k17, i17, show (660 : Int32) = nI 660 from rfl, pk_mul, nI_add]
          rw [v4]
          obtain ⟨M7, e7⟩ : ∃ M7, M7 = sA (sA (sA (sI (sA M4 12 (16 * nx + ls.length) (nI (660 * nx + ((cat ls).length + ls.length)))) 18 0) 19 0 0) 20 0 0) 21 0 0 := ⟨_, rfl⟩
          rw [← e7]
          have h7R : M7R nx (16 * nx + ls.length) (tok (pos + 1)) (660 * nx + ((cat ls).length + ls.length)) M M7 := by
            refine ⟨?_, by rw [e7, e4]; exact g3, by rw [e7, e4]; exact k11, by rw [e7, e4, ← k12]; rfl⟩
            rw [e7, e4]
            exact ag_sA (ag_sA (ag_sA (ag_sI (ag_sA (ag_sI a3 (by decide)) (by decide)) (by decide)) (by decide)) (by decide)) (by decide)
          have hT7 := TM_ag hTM h7R.1 h7R.2.1 (by decide) (by decide) (by decide) (by decide)
          have hM7 : MS N nx ((cat ls).length + ls.length) M7 0 (pos + 3) [] (fun _ _ => 0) M7 := by
            refine ⟨ag_rf, rfl, by rw [e7, e4]; rfl, by rw [e7, e4]; exact k17.trans i17, by rw [e7]; rfl, fun i hi => absurd hi (Nat.not_lt_zero i), fun _ _ => ⟨rfl, rfl⟩, fun b h1 h2 l hl => ?_, hn3, by decide, by show (cat ls).length + ls.length + 0 ≤ _; omega⟩
            have el : l = 0 := by omega
            have e3' : b = 19 ∨ b = 20 ∨ b = 21 := by omega
            subst el
            rw [e7]
            rcases e3' with y | y | y
            · subst y; show upd (gA M4 19) 0 0 0 = 0; exact pk_us
            · subst y; show upd (gA M4 20) 0 0 0 = 0; exact pk_us
            · subst y; show upd (gA M4 21) 0 0 0 = 0; exact pk_us
          refine r_cond hT7 7 0 (pos + 3) [] (fun _ _ => 0) M7 r' ⟨rfl, rfl, rfl⟩ hR hM7 (fun p k er M' hMF => ?_) (fun p cs er M' hM' => ?_)
          · have er' : r = .inl (p, k) := by
              rcases hr with ⟨e0, z1, z2⟩ | ⟨p', cs', z1, -⟩
              · rw [er] at z1
                injection z1 with z1
                rw [z2, ← z1]
              · rw [er] at z1; exact absurd z1 (by simp)
            obtain ⟨m1, m2, ⟨c', -, m3, m4⟩, m5, m6, m7, m8⟩ := hMF
            refine l219_bad hT ⟨ag_tr (ag_mono a (by simp) (by simp)) (ag_tr (ag_mono h7R.1 (by simp) (by simp)) (ag_mono m1 (by simp) (by simp))), m2, fun j hj => ?_, fun j hj => ?_, fun j hj => ?_, m6, m7, m8⟩ ⟨c', m3, m4⟩ (hf p k er')
            · rw [m1.2.1 10 (by decide), h7R.1.2.1 10 (by decide)]; exact f10 j hj
            · rw [m1.2.1 11 (by decide), m1.2.1 12 (by decide), h7R.2.2.1, h7R.2.2.2, pk_un (by omega), pk_un (by omega)]; exact f11 j hj
            · have := m5 j (by omega)
              rw [this.1, this.2, h7R.1.2.1 13 (by decide), h7R.1.2.1 14 (by decide)]; exact f13 j hj
          · rw [List.nil_append] at hM'
            have hrr : (tok p = 10015 ∧ r = .inr (p + 1, (tok (pos + 1), cs))) ∨ (¬ tok p = 10015 ∧ r = .inl (p, 1)) := by
              rcases hr with ⟨e0, z1, z2⟩ | ⟨p', cs', z1, z2⟩
              · rw [er] at z1; exact absurd z1 (by simp)
              · rw [er] at z1
                injection z1 with z1; injection z1 with z1 z3; subst z1 z3
                exact z2
            rw [er] at hR
            have ln := ln_cond 7 0 _ _ _ hR
            have fin : vX9_line_219 Q M' := l219_ok hT h lt h7R hM' ln.2 (fun z M'' hM'' => hrr.elim (fun y => hok (p + 1) _ y.2 M'' hM'') (fun y => absurd z y.1)) (fun z M'' hM'' => hrr.elim (fun y => absurd y.1 z) (fun y => hf p 1 y.2 M'' hM''))
            refine ⟨1, fun c => absurd ?_ c, fun _ => ⟨fun _ => ⟨fun _ => fin, fun c => absurd rfl c⟩, fun c => absurd rfl c⟩⟩
            rw [hM'.2.2.2.2.1]; rfl
        · have qw' : ¬ tok (pos + 2) = 10012 := fun z => qw (z.trans (by decide))
          have er : r = .inl (pos + 2, 1) := by
            rcases hG4 with ⟨-, z⟩ | ⟨z, -⟩
            · exact z
            · exact absurd z qw'
          have hB4 : MB tok pls N (pos + 2) M4 := by
            rw [e4]
            exact TM_MB (TM_ag hT3 (ag_sI (I := [7]) (A := []) ag_rf (by decide)) rfl (by simp) (by simp) (by simp) (by simp)) (by show gI M3 7 + 0 = _; rw [k7, show (0 : Int32) = nI 0 from rfl, nI_add]) hn2'
          refine n_wrong (k := 1) hB4 ?_
          refine l139_tail (by omega) ?_
          exact l185_bad hT (rf_tail (rf3 0 _ (by rw [e4])) (by omega) (by omega)) (c620 _ (by rw [e4]; exact k17)) (hf (pos + 2) 1 er)
      · have tv := t2 (t1.mp s2)
        have t99 := t1.mp s2
        rw [tv, show (99 : Int64) = lN 99 from rfl, lN_le (by omega) (by decide)] at gt
        rcases hG3 with ⟨z, -⟩ | ⟨-, -, z⟩ | ⟨z, -⟩
        · omega
        · exact z
        · omega
      · have n9 : ¬ tok (pos + 1) ≤ 9999 := fun z => s2 (t1.mpr z)
        rcases hG3 with ⟨-, z⟩ | ⟨-, z, -⟩ | ⟨z, -⟩
        · exact z
        · omega
        · omega
    · rcases hG with ⟨z, -⟩ | ⟨-, -, z⟩ | ⟨-, z, -⟩
      · exact absurd q' z
      · exact z
      · omega
  · have q' : ¬ tok pos = 10011 := fun z => q (z.trans (by decide))
    refine l35_bad (rf_ne hT hn (by decide) (by decide)).2 (hf pos 1 ?_ _ (rfM 1 (by decide) (by decide)))
    rcases hG with ⟨-, z⟩ | ⟨z, -⟩ | ⟨z, -⟩
    · exact z
    · exact absurd z q'
    · exact absurd z q'
end LineG
theorem m_text {tok pls : Nat → Nat} {N nx : Nat} {M0 : Sg} {r : PT} {Q : Sg → Int32 → Prop} (hT : TM tok pls N nx M0) (hf : ∀ p k, r = .inl (p, k) → ∀ M', RF N nx pls M0 p k M' → Q M' (nI (k + 16 * pls p))) (hok : ∀ ls, r = .inr ls → ∀ p M', RLn N nx M0 p ls M' → Q (sI M' 15 (nI nx)) 0) : ∀ (j pos : Nat) (ls : List (Nat × List Nat)) (M : Sg), PText tok j pos ls r → RLn N nx M0 pos ls M → vX9_text_34 Q (j + 1) M := by
  intro j
  induction j with
  | zero => intro pos ls M h; exact h.elim
  | succ j ih =>
    intro pos ls M hG h
    obtain ⟨a, h6, i7, -, -, -, -, -, -, -, hn, -⟩ := id h
    have hTM := TM_ag hT a h6 (by decide) (by decide) (by decide) (by decide)
    have h8 : gI M 8 = 0 := hTM.2.2.2.2.2.2.2
    have hB := TM_MB hTM i7 hn
    obtain ⟨j1, j2⟩ := mb_in hB
    obtain ⟨-, -, t3, -⟩ := hB.2.2.2.2.1
    refine ⟨fun c => absurd h8 c, fun _ => ⟨j1, ?_⟩⟩
    rw [j2, t3]
    refine ⟨fun c => ⟨fun c2 => absurd h8 c2, fun _ M1 e1 => ?_⟩, fun c => ?_⟩
    · have er : r = .inr ls := by
        rcases hG with ⟨-, z⟩ | ⟨z, -⟩
        · exact z
        · exact absurd c z
      rw [hTM.2.2.2.2.2.1] at e1
      subst e1
      show Q (sI M 15 (nI nx)) (gI M 8)
      rw [h8]
      exact hok ls er pos M h
    · obtain ⟨r', hL, hr⟩ : ∃ r', PLine tok ls.length pos r' ∧ ((∃ e, r' = .inl e ∧ r = .inl e) ∨ ∃ p l, r' = .inr (p, l) ∧ PText tok j p (ls ++ [l]) r) := by
        rcases hG with ⟨z, -⟩ | ⟨-, z⟩
        · exact absurd z c
        · exact z
      refine m_line hT h hL (fun p k er M' hM' => ?_) (fun p l er M' hM' => ?_)
      · have er' : r = .inl (p, k) := by
          rcases hr with ⟨e0, z1, z2⟩ | ⟨p', l', z1, -⟩
          · rw [er] at z1
            injection z1 with z1
            rw [z2, ← z1]
          · rw [er] at z1; exact absurd z1 (by simp)
        have hne := (rf_ne hT hM'.2.2.2.2.2.1 hM'.2.2.2.2.2.2.1 hM'.2.2.2.2.2.2.2).1
        have h8' : ¬ gI M' 8 = 0 := by rw [hM'.2.1]; exact hne
        refine ⟨fun _ => ⟨fun _ => ?_, fun c => absurd c h8'⟩, fun c => absurd c h8'⟩
        rw [hM'.2.1]
        exact hf p k er' M' hM'
      · have hP : PText tok j p (ls ++ [l]) r := by
          rcases hr with ⟨e0, z1, z2⟩ | ⟨p', l', z1, z2⟩
          · rw [er] at z1; exact absurd z1 (by simp)
          · rw [er] at z1
            injection z1 with z1; injection z1 with z1 z3; subst z1 z3
            exact z2
        exact ih p (ls ++ [l]) M' hP hM'
