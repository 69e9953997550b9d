/-! free slots -/
def fre (n w x : Nat) (R : Sg) (s : Nat) : Prop := w < s / 48 ∧ gA R 27 (s / 48) = 0 ∧ s % 8 < x ∧ hh R (s % 8) (s / 48) (s % 48 / 8) ∧ ∀ j, j < n → gA R 38 j = 1 → gA R 39 j ≠ nI s
def sui (R : Sg) (s j : Nat) : Prop := tw R (s % 8) (s / 48) = gA R 31 j ∧ ¬ nI (s / 48) < gA R 35 j ∧ ¬ nI (s / 48) < gA R 33 j ∧ ¬ gA R 34 j < nI (s / 48)
theorem z_nar0 : vp_nar .boolean (0 : Int32) = 0 := rfl
theorem z_nar1 : vp_nar .boolean (1 : Int32) = 1 := rfl
theorem RelK_at {n s : Nat} {C R : Sg} (hn : n ≤ 60) (hK : RelK n C R) (hs : s < 2880) : gA C 2 s = -1 ↔ ∀ j, j < n → gA R 38 j = 1 → gA R 39 j ≠ nI s := by
  rcases hK.2 s hs with ⟨e, g⟩ | ⟨j, j1, j2, j3, j4⟩
  · exact ⟨fun _ => g, fun _ => e⟩
  · constructor
    · intro q
      rw [j4] at q
      have := congrArg Int32.toInt q
      have h9 : ((-1 : Int32)).toInt = -1 := by decide
      rw [nI_toInt (by omega)] at this
      omega
    · intro g
      exact absurd j3 (g j j1 j2)
theorem z_freeC {n w x s : Nat} {C R : Sg} {Q : Sg → Int32 → Prop} (hB : RelB n w x C R) (hK : RelK n C R) (hs : s < 2880) (hx : s % 8 < x) (h1 : fre n w x R s → Q C 1) (h0 : ¬ fre n w x R s → Q C 0) : wX0_isFree n C (nI s) Q := by
  obtain ⟨b1, b2, b3, b4, b5, b6, b7, b8, b9, b10, b11, b12⟩ := id hB
  have hk := RelK_at hB.1 hK hs
  unfold wX0_isFree
  refine z_isSlot hs ⟨fun q => absurd q (by decide), fun _ => ⟨vp_in_nI hs (by decide), ?_⟩⟩
  rw [nI_clamp (by omega)]
  refine ⟨fun c => ?_, fun c => h0 (fun z => c (hk.mpr z.2.2.2.2))⟩
  unfold wX8_dayOf
  rw [z_div48 hs]
  refine ⟨fun c2 => h0 (fun z => ?_), fun c2 => ⟨vp_in_nI (by omega) (by decide), ?_⟩⟩
  · rw [b6, nI_leI (by omega) (by omega)] at c2
    exact absurd z.1 (by omega)
  · rw [b6, nI_leI (by omega) (by omega)] at c2
    rw [nI_clamp (by omega), b12 (s / 48) (by omega)]
    refine ⟨fun c3 => h0 (fun z => c3 z.2.1), fun c3 => ?_⟩
    unfold wX8_hourOf wX8_examinerOf
    rw [z_hour hs, z_rem8 hs]
    exact z_hasHourC hB hx (by omega) (by omega) (fun q => ⟨fun q => absurd q (by decide), fun _ => h1 ⟨by omega, c3, hx, q, hk.mp c⟩⟩) (fun q => ⟨fun _ => h0 (fun z => q z.2.2.2.1), fun q => absurd rfl q⟩)
theorem z_freeM {n w x s : Nat} {C R : Sg} {Q : Sg → Int32 → Prop} (hB : RelB n w x C R) (hK : RelK n C R) (hs : s < 2880) (h1 : fre n w x R s → Q R 1) (h0 : ¬ fre n w x R s → Q R 0) : wX9_isFree R (nI s) Q := by
  obtain ⟨b1, b2, b3, b4, b5, b6, b7, b8, b9, b10, b11, b12⟩ := id hB
  have hk := RelK_at hB.1 hK hs
  unfold wX9_isFree
  rw [z_div48 hs, z_rem8 hs, nI_clamp (by omega), b7, b9, nI_leI (by omega) (by omega), nI_leI (by omega) (by omega)]
  refine ⟨fun c => h0 (fun z => absurd z.1 (by omega)), fun c => ⟨vp_in_nI (by omega) (by decide), fun c2 => h0 (fun z => c2 z.2.1), fun c2 => ⟨fun c3 => h0 (fun z => absurd z.2.2.1 (by omega)), fun c3 => ?_⟩⟩⟩
  refine z_isThere hB hs (fun q => ⟨fun q => absurd q (by decide), fun _ => ?_⟩) (fun q => ⟨fun _ => h0 (fun z => q z.2.2.2.1), fun q => absurd rfl q⟩)
  refine z_bookedAt hB hK hs ⟨fun c4 => h0 (fun z => ?_), fun c4 => h1 ⟨by omega, c2, by omega, q, hk.mp ?_⟩⟩
  · rw [hk.mpr z.2.2.2.2] at c4
    exact absurd c4 (by decide)
  · rcases hK.2 s hs with ⟨e, -⟩ | ⟨j, j1, j2, j3, j4⟩
    · exact e
    · rw [j4] at c4
      exact absurd (nI_pos' (by omega)) c4
theorem z_suitsM {n w x s j : Nat} {C R : Sg} {Q : Sg → Int32 → Prop} (hB : RelB n w x C R) (hs : s < 2880) (hj : j < 60) (h1 : sui R s j → Q R 1) (h0 : ¬ sui R s j → Q R 0) : wX9_suits R (nI s) (nI j) Q := by
  have hin : vp_in (nI j) 60 := vp_in_nI hj (by decide)
  intro y ey
  rw [z_div48 hs] at ey
  subst ey
  rw [z_rem8 hs, z_lin, nI_clamp (by omega), nI_clamp (by omega)]
  exact ⟨vp_in_nI (by omega) (by decide), hin, fun c => h0 (fun z => c z.1), fun c => ⟨hin, fun c2 => h0 (fun z => z.2.1 c2), fun c2 => ⟨hin, fun c3 => h0 (fun z => z.2.2.1 c3), fun c3 => ⟨hin, fun c4 => h0 (fun z => z.2.2.2 c4), fun c4 => h1 ⟨c, c2, c3, c4⟩⟩⟩⟩⟩
theorem z_suitsC {n w x s j : Nat} {C R : Sg} {Q : Sg → Int32 → Prop} (hB : RelB n w x C R) (hL : RelL1 x C R j) (hs : s < 2880) (hx : s % 8 < x) (hj : j < n) (h1 : sui R s j → Q C 1) (h0 : ¬ sui R s j → Q C 0) : wX8_isSuiting n C (nI s) j Q := by
  obtain ⟨g1, g2, g3, g4, g5, g6, g7, g8, g9, g10, -⟩ := hL
  unfold wX8_isSuiting wX8_dayOf
  rw [z_div48 hs]
  dsimp only
  rw [g5, g6, g7]
  refine ⟨hj, fun c => ⟨fun _ => h0 (fun z => z.2.1 c), fun q => absurd rfl q⟩, fun c => ⟨hj, fun c2 => ⟨fun _ => h0 (fun z => z.2.2.1 c2), fun q => absurd rfl q⟩, fun c2 => ⟨hj, fun c3 => ⟨fun _ => h0 (fun z => z.2.2.2 c3), fun q => absurd rfl q⟩, fun c3 => ⟨fun q => absurd q (by decide), fun _ => ?_⟩⟩⟩⟩
  unfold wX8_examinerOf
  rw [z_rem8 hs]
  refine z_townOf hB hx (by omega) ⟨hj, ?_⟩
  rw [g3]
  exact ⟨fun q => h0 (fun z => q z.1), fun q => h1 ⟨q, c, c2, c3⟩⟩
/-- the least that is free at these hours of a day -/
def lio (n w x : Nat) (R : Sg) (d : Nat) (t : Int32) (l : Nat) (v : Int32) : Prop :=
  (v = -1 ∧ ∀ s, s < 2880 → s / 48 = d → s % 8 < l → tw R (s % 8) d = t → ¬ fre n w x R s) ∨ ∃ s, s < 2880 ∧ v = nI s ∧ s / 48 = d ∧ s % 8 < l ∧ tw R (s % 8) d = t ∧ fre n w x R s ∧ ∀ s', s' < s → s' / 48 = d → s' % 8 < l → tw R (s' % 8) d = t → ¬ fre n w x R s'
theorem z_m1 {s : Nat} (h : s < 2880) : ¬ nI s = -1 := fun q => by
  have := congrArg Int32.toInt q
  rw [nI_toInt (by omega)] at this
  have h9 : ((-1 : Int32)).toInt = -1 := by decide
  omega
theorem z_leastOn {n w x d : Nat} {t : Int32} {C R : Sg} {Q : Sg → Int32 → Prop} (hB : RelB n w x C R) (hK : RelK n C R) (hd : d < 60) (hq : ∀ v, lio n w x R d t x v → Q C v) : wX0_leastFreeOn n C (nI d) t Q := by
  have hx8 : x ≤ 8 := hB.2.2.1
  have b8 := hB.2.2.2.2.2.2.2.1
  have loop : ∀ (k h : Nat), h + k = 6 → (∀ s, s < 48 * d + 8 * h → s / 48 = d → s % 8 < x → tw R (s % 8) d = t → ¬ fre n w x R s) → vX0_leastFreeOn_2 n Q (k + 1) C (nI d) t (nI h) := by
    intro k
    induction k with
    | zero =>
      intro h hh hn
      exact ⟨fun _ => hq _ (Or.inl ⟨rfl, fun s q1 q2 q3 q4 => hn s (by omega) q2 q3 q4⟩), fun c => absurd (by rw [show h = 6 by omega]; decide) c⟩
    | succ k ih =>
      intro h hh hn
      refine ⟨fun c => absurd c (by rw [show (6 : Int32) = nI 6 from rfl]; exact nI_ge (by omega) (by decide)), fun _ => ?_⟩
      have inner : ∀ (m l : Nat), l + m = x → (∀ s, s < 48 * d + 8 * h + l → s / 48 = d → s % 8 < x → tw R (s % 8) d = t → ¬ fre n w x R s) → vX0_leastFreeOn_11 n (vX0_leastFreeOn_2 n Q (k + 1)) Q (m + 1) C (nI d) t (nI h) (nI l) := by
        intro m
        induction m with
        | zero =>
          intro l hl hm
          refine ⟨fun _ y ey => ?_, fun c => absurd (by rw [b8, show l = x by omega]; exact Int32.le_refl _) c⟩
          rw [ey, nI_1]
          exact ih (h + 1) (by omega) (fun s q1 q2 q3 q4 => hm s (by omega) q2 q3 q4)
        | succ m ihm =>
          intro l hl hm
          refine ⟨fun c => absurd c (by rw [b8]; exact nI_ge (by omega) (by omega)), fun _ => ?_⟩
          have hs : 48 * d + 8 * h + l < 2880 := by omega
          have next : (tw R l d = t → ¬ fre n w x R (48 * d + 8 * h + l)) → vX0_leastFreeOn_52 n (vX0_leastFreeOn_2 n Q (k + 1)) (vX0_leastFreeOn_11 n (vX0_leastFreeOn_2 n Q (k + 1)) Q (m + 1)) Q C (nI d) t (nI h) (nI l) := fun g y ey => by
            rw [ey, nI_1]
            refine ihm (l + 1) (by omega) (fun s q1 q2 q3 q4 => ?_)
            by_cases z : s = 48 * d + 8 * h + l
            · rw [z, show (48 * d + 8 * h + l) % 8 = l by omega] at q4
              rw [z]
              exact g q4
            · exact hm s (by omega) q2 q3 q4
          unfold wX8_slotOf
          rw [z_slot]
          refine z_townOf hB (by omega) hd ⟨fun c => next (fun q => absurd q c), fun c => ?_⟩
          refine z_freeC hB hK hs (by omega) (fun q => ⟨fun q => absurd q (by decide), fun _ => hq _ (Or.inr ⟨_, hs, rfl, by omega, by omega, ?_, q, hm⟩)⟩) (fun q => ⟨fun _ => next (fun _ => q), fun q => absurd rfl q⟩)
          rw [show (48 * d + 8 * h + l) % 8 = l by omega]
          exact c
      exact ⟨x + 1, inner x 0 (by omega) (fun s q1 => hn s (by omega))⟩
  exact ⟨7, loop 6 0 (by omega) (fun s q1 q2 => absurd q1 (by omega))⟩
theorem z_leastD {n w x lo hi : Nat} {t : Int32} {C R : Sg} {Q : Sg → Int32 → Prop} (hB : RelB n w x C R) (hK : RelK n C R) (hlo : lo ≤ 60) (hhi : hi ≤ 59) (hN : (∀ s, s < 2880 → lo ≤ s / 48 → s / 48 ≤ hi → tw R (s % 8) (s / 48) = t → ¬ fre n w x R s) → Q C (-1)) (hS : ∀ s, s < 2880 → lo ≤ s / 48 → s / 48 ≤ hi → tw R (s % 8) (s / 48) = t → fre n w x R s → (∀ s', s' < s → lo ≤ s' / 48 → s' / 48 ≤ hi → tw R (s' % 8) (s' / 48) = t → ¬ fre n w x R s') → Q C (nI s)) : ∃ f, vX0_leastFree_12 n Q f C t (nI hi) (nI lo) := by
  have loop : ∀ (k d : Nat), d + k = 60 → lo ≤ d → (∀ s, s < 2880 → lo ≤ s / 48 → s / 48 < d → s / 48 ≤ hi → tw R (s % 8) (s / 48) = t → ¬ fre n w x R s) → vX0_leastFree_12 n Q (k + 1) C t (nI hi) (nI d) := by
    intro k
    induction k with
    | zero =>
      intro d hd hl hn
      exact ⟨fun _ => hN (fun s q1 q2 q3 q4 => hn s q1 q2 (by omega) q3 q4), fun c => ⟨fun _ => hN (fun s q1 q2 q3 q4 => hn s q1 q2 (by omega) q3 q4), fun c => absurd (by rw [show d = 60 by omega]; decide) c⟩⟩
    | succ k ih =>
      intro d hd hl hn
      refine ⟨fun c => ?_, fun c => ⟨fun c2 => ?_, fun _ => ?_⟩⟩
      · rw [nI_ltI (by omega) (by omega)] at c
        exact hN (fun s q1 q2 q3 q4 => hn s q1 q2 (by omega) q3 q4)
      · exact absurd c2 (by rw [show (60 : Int32) = nI 60 from rfl]; exact nI_ge (by omega) (by decide))
      · rw [nI_ltI (by omega) (by omega)] at c
        refine z_leastOn hB hK (by omega) (fun v hv => ?_)
        rcases hv with ⟨e, g⟩ | ⟨s, s1, s2, s3, s4, s5, s6, s7⟩
        · refine ⟨fun _ y ey => ?_, fun q => absurd e q⟩
          rw [ey, nI_1]
          refine ih (d + 1) (by omega) (by omega) (fun s q1 q2 q3 q4 q5 => ?_)
          by_cases z : s / 48 = d
          · intro hf
            exact g s q1 z hf.2.2.1 (by rw [z] at q5; exact q5) hf
          · exact hn s q1 q2 (by omega) q4 q5
        · refine ⟨fun q => absurd (s2.symm.trans q) (z_m1 s1), fun _ => ?_⟩
          rw [s2]
          refine hS s s1 (by omega) (by omega) (by rw [s3]; exact s5) s6 (fun s' q1 q2 q3 q4 => ?_)
          by_cases z : s' / 48 = d
          · intro hf
            exact s7 s' q1 z hf.2.2.1 (by rw [z] at q4; exact q4) hf
          · exact hn s' (by omega) q2 (by omega) q3 q4
  exact ⟨_, loop (60 - lo) lo (by omega) (Nat.le_refl lo) (fun s _ q1 q2 => absurd q1 (by omega))⟩
def okS (n w x : Nat) (R : Sg) (j s : Nat) : Prop := fre n w x R s ∧ sui R s j
theorem z_leastC {n w x j : Nat} {C R : Sg} {Q : Sg → Int32 → Prop} (hB : RelB n w x C R) (hL : RelL1 x C R j) (hK : RelK n C R) (hN : (∀ s, s < 2880 → ¬ okS n w x R j s) → Q C (-1)) (hS : ∀ s, s < 2880 → okS n w x R j s → (∀ s', s' < s → ¬ okS n w x R j s') → Q C (nI s)) : wX0_leastFree n C (gA C 52 j) (if gA C 56 j < gA C 54 j then gA C 54 j else gA C 56 j) (gA C 55 j) Q := by
  obtain ⟨g1, g2, g3, g4, g5, g6, g7, g8, g9, g10, g11, g12, g13, ⟨fr, f1, f2⟩, ⟨to, t1, t2⟩, ⟨wi, w1, w2⟩, -⟩ := hL
  have b2 := hB.2.1
  have b6 := hB.2.2.2.2.2.1
  rw [g3, g5, g6, g7, f2, t2, w2]
  intro y ey
  rw [b6, nI_1] at ey
  have ey : y = nI (max (max wi fr) (w + 1)) := by
    rw [ey]
    by_cases c1 : wi < fr
    · rw [if_pos (nI_lt c1 (by omega))]
      by_cases c2 : fr < w + 1
      · rw [if_pos (nI_lt c2 (by omega)), show max (max wi fr) (w + 1) = w + 1 by omega]
      · rw [if_neg (nI_nlt (by omega) (by omega)), show max (max wi fr) (w + 1) = fr by omega]
    · rw [if_neg (nI_nlt (by omega) (by omega))]
      by_cases c2 : wi < w + 1
      · rw [if_pos (nI_lt c2 (by omega)), show max (max wi fr) (w + 1) = w + 1 by omega]
      · rw [if_neg (nI_nlt (by omega) (by omega)), show max (max wi fr) (w + 1) = wi by omega]
  subst ey
  have iff : ∀ s, s < 2880 → (okS n w x R j s ↔ (max (max wi fr) (w + 1) ≤ s / 48 ∧ s / 48 ≤ to ∧ tw R (s % 8) (s / 48) = gA R 31 j ∧ fre n w x R s)) := fun s hs => by
    unfold okS sui
    rw [w2, f2, t2, nI_ltI (by omega) (by omega), nI_ltI (by omega) (by omega), nI_ltI (by omega) (by omega)]
    constructor
    · rintro ⟨a, b, c, d, e⟩
      exact ⟨by have := a.1; omega, by omega, b, a⟩
    · rintro ⟨a, b, c, d⟩
      exact ⟨d, c, by omega, by omega, by omega⟩
  refine z_leastD hB hK (by omega) (by omega) (fun h => hN (fun s hs q => ?_)) (fun s hs q1 q2 q3 q4 q5 => hS s hs ((iff s hs).mpr ⟨q1, q2, q3, q4⟩) (fun s' hs' z => ?_))
  · obtain ⟨a, b, c, d⟩ := (iff s hs).mp q
    exact h s hs a b c d
  · obtain ⟨a, b, c, d⟩ := (iff s' (by omega)).mp z
    exact q5 s' hs' a b c d
