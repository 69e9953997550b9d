/-! look: the place among those who wait -/
theorem cntB_zero {q : Nat → Bool} : ∀ (n : Nat), (∀ k, k < n → q k = false) → cntB q n = 0 := by
  intro n
  induction n with
  | zero => intro _; rfl
  | succ n ih =>
    intro h
    show cntB q n + (if q n then 1 else 0) = 0
    rw [ih (fun k hk => h k (by omega)), h n (Nat.lt_succ_self n)]
    rfl
theorem cntB_rm {q : Nat → Bool} {k0 : Nat} : ∀ (n : Nat), k0 < n → cntB q n = cntB (fun k => q k && !(decide (k = k0))) n + (if q k0 then 1 else 0) := by
  intro n
  induction n with
  | zero => intro h; exact absurd h (Nat.not_lt_zero _)
  | succ n ih =>
    intro h
    show cntB q n + (if q n then 1 else 0) = cntB (fun k => q k && !(decide (k = k0))) n + (if (q n && !(decide (n = k0))) then 1 else 0) + (if q k0 then 1 else 0)
    by_cases e : k0 = n
    · subst e
      rw [cntB_congr (p := fun k => q k && !(decide (k = k0))) (q := q) (n := k0) (fun k hk => by
        show (q k && !(decide (k = k0))) = q k
        rw [decide_eq_false (by omega)]
        simp)]
      simp
    · rw [ih (by omega), decide_eq_false (show ¬ n = k0 from fun z => e z.symm)]
      simp
      omega
theorem cntB_line {n : Nat} {g : Nat → Nat} : ∀ (s : Nat) (q : Nat → Bool), (∀ i, i < s → g i < n) → (∀ i j, i < s → j < s → g i = g j → i = j) → (∀ k, k < n → q k = true → ∃ i, i < s ∧ g i = k) → cntB q n = cntB (fun i => q (g i)) s := by
  intro s
  induction s with
  | zero =>
    intro q _ _ h
    refine cntB_zero n (fun k hk => ?_)
    cases hq : q k with
    | false => rfl
    | true => obtain ⟨i, hi, -⟩ := h k hk hq; exact absurd hi (Nat.not_lt_zero i)
  | succ s ih =>
    intro q h1 h2 h3
    have i1 := ih (fun k => q k && !(decide (k = g s))) (fun i hi => h1 i (by omega)) (fun i j hi hj => h2 i j (by omega) (by omega)) (fun k hk hq => by
      rw [Bool.and_eq_true] at hq
      obtain ⟨i, hi, e⟩ := h3 k hk hq.1
      have : i ≠ s := fun z => by
        rw [z] at e
        rw [e] at hq
        simp at hq
      exact ⟨i, by omega, e⟩)
    rw [cntB_rm n (h1 s (Nat.lt_succ_self s)), i1]
    show _ = cntB (fun i => q (g i)) s + (if q (g s) then 1 else 0)
    rw [cntB_congr (p := fun i => q (g i) && !(decide (g i = g s))) (q := fun i => q (g i)) (n := s) (fun k hk => by
      show (q (g k) && !(decide (g k = g s))) = q (g k)
      rw [decide_eq_false (fun z => by have := h2 k s (by omega) (by omega) z; omega)]
      simp)]
theorem cntB_first {q : Nat → Bool} {i : Nat} : ∀ (s : Nat), (∀ k, k < s → (q k = true ↔ k < i)) → cntB q s = if i ≤ s then i else s := by
  intro s
  induction s with
  | zero => intro _; by_cases c : i ≤ 0
            · rw [if_pos c]; show 0 = i; omega
            · rw [if_neg c]; rfl
  | succ s ih =>
    intro h
    have := h s (Nat.lt_succ_self s)
    show cntB q s + (if q s then 1 else 0) = _
    rw [ih (fun k hk => h k (by omega))]
    by_cases c : s < i
    · rw [if_pos (this.mpr c)]
      by_cases e : i ≤ s + 1
      · rw [if_neg (by omega), if_pos e]; omega
      · rw [if_neg (by omega), if_neg e]
    · rw [if_neg (fun z => c (this.mp z)), if_pos (by omega), if_pos (by omega)]
      omega
theorem z_placeOfC {n s j : Nat} {g : Nat → Nat} {r : Nat → Int32} {M : Sg} {Q : Sg → Int32 → Prop} (hL : LnR M r s g) (hj : j < 60) (hg : ∀ i, i < s → g i < 60) (h1 : ∀ i, i < s → g i = j → Q M (nI i)) (h0 : (∀ i, i < s → g i ≠ j) → Q M (-1)) : wX2_placeOf n M (nI j) Q := by
  obtain ⟨l1, l2, l3⟩ := hL
  have loop : ∀ (k i : Nat), i + k = s → (∀ i', i' < i → g i' ≠ j) → vX2_placeOf_2 n Q (k + 1) M (nI j) (nI i) := by
    intro k
    induction k with
    | zero =>
      intro i hi h
      have ei : i = s := by omega
      subst ei
      exact ⟨fun _ => h0 h, fun c => absurd (by rw [l2]; exact Int32.le_refl _) c⟩
    | succ k ih =>
      intro i hi h
      have hin : vp_in (nI i) 60 := vp_in_nI (by omega) (by decide)
      refine ⟨fun c => absurd c (by rw [l2]; exact nI_ge (by omega) (by omega)), fun _ => ⟨hin, ?_⟩⟩
      rw [nI_clamp (by omega), (l3 i (by omega)).1]
      refine ⟨fun c y ey => ?_, fun c => h1 i (by omega) ?_⟩
      · rw [ey, nI_1]
        refine ih (i + 1) (by omega) (fun i' hi' => ?_)
        by_cases e : i' = i
        · rw [e]; exact fun z => c (by rw [z])
        · exact h i' (by omega)
      · rw [nI_eq (by have := hg i (by omega); omega) (by omega)] at c
        exact c
  exact ⟨s + 1, loop s 0 (by omega) (fun i' q => absurd q (Nat.not_lt_zero i'))⟩
noncomputable def qah (r : Nat → Int32) (R : Sg) (j k : Nat) : Bool := @decide (gA R 38 k = 0 ∧ ahd r k j) (Classical.propDecidable _)
theorem qah_t {r : Nat → Int32} {R : Sg} {j k : Nat} : qah r R j k = true ↔ gA R 38 k = 0 ∧ ahd r k j := by unfold qah; exact @decide_eq_true_iff _ (Classical.propDecidable _)
theorem qah_f {r : Nat → Int32} {R : Sg} {j k : Nat} : qah r R j k = false ↔ ¬ (gA R 38 k = 0 ∧ ahd r k j) := by unfold qah; exact @decide_eq_false_iff_not _ (Classical.propDecidable _)
theorem z_placeOfM {n w x j : Nat} {C R : Sg} {Q : Sg → Int32 → Prop} (hT : RT n w x C R) (hX : RelX C R) (hj : j < n) (h0 : ¬ gA R 38 j = 0 → Q R (-1)) (h1 : gA R 38 j = 0 → ∀ M, ag [] [22, 23, 43] R M → Q M (nI (cntB (qah (rk C) R j) n))) : wX9_placeOf R (nI j) Q := by
  have hn : n ≤ 60 := hT.1.1
  have hc : gI R 30 = nI n := hT.1.2.2.2.2.1
  refine ⟨vp_in_nI (by omega) (by decide), ?_⟩
  rw [nI_clamp (by omega)]
  refine ⟨fun c => z_findRanks hT.1 hT.2.1 hX (fun M a hr => ?_), h0⟩
  have loop : ∀ (k l : Nat), l + k = n → vX9_placeOf_19 Q (k + 1) M (nI j) (nI (cntB (qah (rk C) R j) l)) (nI l) := by
    intro k
    induction k with
    | zero =>
      intro l hl
      have el : l = n := by omega
      subst el
      exact ⟨fun _ => h1 c M a, fun q => absurd (by rw [a.1 30 (by simp), hc]; exact Int32.le_refl _) q⟩
    | succ k ih =>
      intro l hl
      have hin : vp_in (nI l) 60 := vp_in_nI (by omega) (by decide)
      refine ⟨fun q => absurd q (by rw [a.1 30 (by simp), hc]; exact nI_ge (by omega) (by omega)), fun _ => ⟨hin, ?_⟩⟩
      rw [nI_clamp (by omega), a.2.1 38 (by decide)]
      have no : qah (rk C) R j l = false → vX9_placeOf_50 (vX9_placeOf_19 Q (k + 1)) Q M (nI j) (nI l) (nI (cntB (qah (rk C) R j) l)) := fun hq y ey z ez => by
        rw [ez, nI_1, ey, show (0 : Int32) = nI 0 from rfl, nI_add, show cntB (qah (rk C) R j) l + 0 = cntB (qah (rk C) R j) (l + 1) by show _ = cntB (qah (rk C) R j) l + _; rw [hq]; rfl]
        exact ih (l + 1) (by omega)
      refine ⟨fun c1 => no (qah_f.mpr (fun q => c1 q.1)), fun c1 => z_isAhead (r := rk C) (by omega) (by omega) (hr l (by omega)) (hr j hj) (fun q => ⟨fun q => absurd q (by decide), fun _ y ey z ez => ?_⟩) (fun q => ⟨fun _ => no (qah_f.mpr (fun z => q z.2)), fun q => absurd rfl q⟩)⟩
      rw [ez, nI_1, ey, nI_1, show cntB (qah (rk C) R j) l + 1 = cntB (qah (rk C) R j) (l + 1) by show _ = cntB (qah (rk C) R j) l + _; rw [qah_t.mpr ⟨c1, q⟩]; rfl]
      exact ih (l + 1) (by omega)
  exact ⟨n + 1, loop n 0 (by omega)⟩
/-- the class's look: what it answers (Q), or that it throws (T) -/
def wX8_look (n : Nat) (M : Sg) (a1 a2 : Int32) (Q : Sg → Int32 → Prop) (T : Sg → Prop) : Prop :=
  wX8_find n M a1 (fun M1 r => (r = none → T M1) ∧ (∀ j : Nat, r = some j → ((a2 = (0 : Int32) → (j < n ∧ Q M1 (gA M1 58 j))) ∧ (a2 = (1 : Int32) → (j < n ∧ Q M1 (gA M1 59 j))) ∧ (a2 = (2 : Int32) → (j < n ∧ Q M1 (gA M1 60 j))) ∧ (a2 = (3 : Int32) → wX8_placeAmongWaiting n M1 j Q) ∧ (a2 = (4 : Int32) → (j < n ∧ Q M1 (gA M1 61 j))) ∧ ((¬ a2 = (0 : Int32) ∧ ¬ a2 = (1 : Int32) ∧ ¬ a2 = (2 : Int32) ∧ ¬ a2 = (3 : Int32) ∧ ¬ a2 = (4 : Int32)) → T M1))))
theorem z_04 (b : Int32) (h1 : ¬ b < 0) (h2 : ¬ (4 : Int32) < b) : b = 0 ∨ b = 1 ∨ b = 2 ∨ b = 3 ∨ b = 4 := by
  obtain ⟨j, hj, e⟩ := nI_of2 (M := 4) (n := 4) rfl h1 (Int32.not_lt.mp h2)
  subst e
  rcases j with _ | _ | _ | _ | _ | j
  · exact Or.inl rfl
  · exact Or.inr (Or.inl rfl)
  · exact Or.inr (Or.inr (Or.inl rfl))
  · exact Or.inr (Or.inr (Or.inr (Or.inl rfl)))
  · exact Or.inr (Or.inr (Or.inr (Or.inr rfl)))
  · omega
theorem op_look {i n : Nat} {C R : Sg} {a b : Int32} (h : Rel i n C R) : wX8_look n C a b (fun C' r => wX9_look R a b (fun R' r' => gI R' 0 = 0 ∧ r' = r ∧ Rel (i + 1) n C' R')) (fun C' => wX9_look R a b (fun R' r' => gI R' 0 = 1 ∧ Rel (i + 1) n C' R')) := by
  have h0 := Rel_thr (v := 0) h
  have h1 := Rel_thr (v := 1) h
  obtain ⟨⟨w, x, hB, hL⟩, hK, -, -, -, -, hX, -⟩ := id h
  obtain ⟨b1, b2, b3, b4, b5, -⟩ := id hB
  unfold wX8_look
  refine z_find b1 b4 (fun c => ⟨fun _ => ?_, fun j q => absurd q (by simp)⟩) (fun j hj e => ⟨fun q => absurd q (by simp), fun j' q => ?_⟩)
  · refine z_isLearner b1 b5 (fun _ => ⟨fun _ M1 e1 => ?_, fun q => absurd rfl q⟩) (fun j hj e => absurd c (fun q => q.elim (by rw [e]; exact nI_pos (by omega)) (by rw [e]; exact nI_ge hj (by omega))))
    subst e1
    exact ⟨fun q => absurd q (by show ¬ (1 : Int32) ≤ 0; decide), fun _ => ⟨rfl, Rel_mono h1 (Nat.le_succ i)⟩⟩
  · injection q with q
    subst q e
    have hin : vp_in (nI j) 60 := vp_in_nI (by omega) (by decide)
    have hcl : (nI j).toNatClampNeg = j := nI_clamp (by omega)
    obtain ⟨g1, g2, g3, g4, g5, g6, g7, g8, g9, g10, g11, g12, -⟩ := hL j hj
    have good : ∀ Q : Sg → Int32 → Prop, ¬ b < 0 → ¬ (4 : Int32) < b → vX9_look_23 Q R (nI j) b 0 → wX9_look R (nI j) b Q := fun Q c1 c2 hq =>
      z_isLearner b1 b5 (fun c => absurd c (fun q => q.elim (nI_pos (by omega)) (nI_ge hj (by omega)))) (fun _ _ _ => ⟨fun q => absurd q (by decide), fun _ => ⟨fun q => absurd q c1, fun _ => ⟨fun q => absurd q c2, fun _ => hq⟩⟩⟩)
    have val : ∀ (v : Int32) (b' : Int32), b = b' → ¬ b' < 0 → ¬ (4 : Int32) < b' → ((b' = 0 → v = gA R 38 j) ∧ (b' = 1 → v = gA R 39 j) ∧ (b' = 2 → v = gA R 40 j) ∧ ¬ b' = 3 ∧ (¬ b' = 0 ∧ ¬ b' = 1 ∧ ¬ b' = 2 ∧ ¬ b' = 3 → v = gA R 41 j)) → wX9_look R (nI j) b (fun R' r' => gI R' 0 = 0 ∧ r' = v ∧ Rel (i + 1) n C R') := by
      intro v b' eb c1 c2 hv
      subst eb
      refine good _ c1 c2 (fun M1 e1 => ?_)
      subst e1
      rw [hcl]
      exact ⟨fun _ => ⟨fun z => ⟨hin, rfl, (hv.1 z).symm, Rel_mono h0 (Nat.le_succ i)⟩, fun z => ⟨hin, rfl, (hv.2.1 z).symm, Rel_mono h0 (Nat.le_succ i)⟩, fun z => ⟨hin, rfl, (hv.2.2.1 z).symm, Rel_mono h0 (Nat.le_succ i)⟩, fun z => absurd z hv.2.2.2.1, fun z => ⟨hin, rfl, (hv.2.2.2.2 z).symm, Rel_mono h0 (Nat.le_succ i)⟩⟩, fun q => absurd (by show (0 : Int32) ≤ 0; decide) q⟩
    refine ⟨fun e => ⟨hj, ?_⟩, fun e => ⟨hj, ?_⟩, fun e => ⟨hj, ?_⟩, fun e => ?_, fun e => ⟨hj, ?_⟩, fun e => ?_⟩
    · exact val _ 0 e (by decide) (by decide) ⟨fun _ => g9, fun q => absurd q (by decide), fun q => absurd q (by decide), by decide, fun q => absurd rfl q.1⟩
    · exact val _ 1 e (by decide) (by decide) ⟨fun q => absurd q (by decide), fun _ => g10, fun q => absurd q (by decide), by decide, fun q => absurd rfl q.2.1⟩
    · exact val _ 2 e (by decide) (by decide) ⟨fun q => absurd q (by decide), fun q => absurd q (by decide), fun _ => g11, by decide, fun q => absurd rfl q.2.2.1⟩
    · subst e
      have main : ∀ (M : Sg) (v : Int32), Rel i n M R → (¬ gA R 38 j = 0 → v = -1) → (gA R 38 j = 0 → v = nI (cntB (qah (rk C) R j) n)) → wX9_look R (nI j) 3 (fun R' r' => gI R' 0 = 0 ∧ r' = v ∧ Rel (i + 1) n M R') := by
        intro M v hM v0 v1
        refine good _ (by decide) (by decide) (fun M1 e1 => ?_)
        subst e1
        refine ⟨fun _ => ⟨fun z => absurd z (by decide), fun z => absurd z (by decide), fun z => absurd z (by decide), fun _ => ?_, fun z => absurd rfl z.2.2.2⟩, fun q => absurd (by show (0 : Int32) ≤ 0; decide) q⟩
        obtain ⟨⟨w', x', hB', hL'⟩, hK', -, -, -, -, hX', -⟩ := id h0
        refine z_placeOfM (C := C) (R := sI R 0 0) ⟨hB', hL', hK'⟩ hX' hj (fun q => ⟨rfl, (v0 q).symm, Rel_mono (Rel_thr hM) (Nat.le_succ i)⟩) (fun q M2 a2 => ⟨a2.1 0 (by simp), (v1 q).symm, Rel_mono (Rel_agR (Rel_thr hM) (ag_mono a2 (by simp) (by simp))) (Nat.le_succ i)⟩)
      unfold wX8_placeAmongWaiting
      refine z_lineUpWaiting b1 b4 hX (fun M s g aM hU => ⟨hj, ?_⟩)
      rw [aM.2.1 50 (by decide), g1]
      obtain ⟨u1, u2, u3, u4, u5⟩ := id hU
      have hM := Rel_line h aM
      have e8 : ∀ k, k < n → gA C 58 k = gA R 38 k := fun k hk => (hL k hk).2.2.2.2.2.2.2.2.1
      refine z_placeOfC u1 (by omega) (fun i hi => by have := (u3 i hi).1; omega) (fun p hp ep => main M _ hM (fun q => absurd ?_ q) (fun _ => ?_)) (fun no => main M _ hM (fun _ => rfl) (fun q => ?_))
      · rw [← e8 j hj, ← ep]; exact (u3 p hp).2
      · congr 1
        rw [cntB_line s (qah (rk C) R j) (fun i hi => (u3 i hi).1) (fun i k hi hk e => srt_inj u2 hi hk e) (fun k hk q => u4 k hk ((e8 k hk).trans (qah_t.mp q).1)), cntB_first (i := p) s (fun k hk => ?_), if_pos (by omega)]
        rw [qah_t]
        constructor
        · rintro ⟨-, q⟩
          rcases Nat.lt_trichotomy k p with z | z | z
          · exact z
          · rw [z, ep] at q; exact absurd q ahd_ir
          · have := u2 p k z hk
            rw [ep] at this
            exact absurd (ahd_tr q this) ahd_ir
        · intro z
          refine ⟨by rw [← e8 (g k) (u3 k hk).1]; exact (u3 k hk).2, ?_⟩
          have := u2 k p z hp
          rw [ep] at this
          exact this
      · exfalso
        obtain ⟨p, hp, ep⟩ := u4 j hj ((e8 j hj).trans q)
        exact no p hp ep
    · exact val _ 4 e (by decide) (by decide) ⟨fun q => absurd q (by decide), fun q => absurd q (by decide), fun q => absurd q (by decide), by decide, fun _ => g12⟩
    · refine z_isLearner b1 b5 (fun c => absurd c (fun q => q.elim (nI_pos (by omega)) (nI_ge hj (by omega)))) (fun _ _ _ => ⟨fun q => absurd q (by decide), fun _ => ?_⟩)
      have bad : vX9_look_23 (fun R' r' => gI R' 0 = 1 ∧ Rel (i + 1) n C R') R (nI j) b 1 := fun M1 e1 => by
        subst e1
        exact ⟨fun q => absurd q (by show ¬ (1 : Int32) ≤ 0; decide), fun _ => ⟨rfl, Rel_mono h1 (Nat.le_succ i)⟩⟩
      refine ⟨fun _ => bad, fun c1 => ⟨fun _ => bad, fun c2 => ?_⟩⟩
      rcases z_04 b c1 c2 with z | z | z | z | z
      · exact absurd z e.1
      · exact absurd z e.2.1
      · exact absurd z e.2.2.1
      · exact absurd z e.2.2.2.1
      · exact absurd z e.2.2.2.2
