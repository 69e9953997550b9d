/-! hours, bookings -/
def tw (R : Sg) (e d : Nat) : Int32 := gA R 26 (60 * e + d)
def hh (R : Sg) (e d h : Nat) : Prop := tw R e d ≠ -1 ∧ (0 < h ∨ d = 0 ∨ tw R e (d - 1) = -1 ∨ tw R e (d - 1) = tw R e d)
theorem z_lin (e d : Nat) : (60 : Int32) * nI e + nI d = nI (60 * e + d) := by rw [show (60 : Int32) = nI 60 from rfl, pk_mul, nI_add]
theorem z_slot (d h e : Nat) : (48 : Int32) * nI d + (8 : Int32) * nI h + nI e = nI (48 * d + 8 * h + e) := by rw [show (48 : Int32) = nI 48 from rfl, show (8 : Int32) = nI 8 from rfl, pk_mul, pk_mul, nI_add, nI_add]
theorem z_townOf {n w x e d : Nat} {C R : Sg} {Q : Sg → Int32 → Prop} (hB : RelB n w x C R) (he : e < x) (hd : d < 60) (hq : Q C (tw R e d)) : wX0_townOf n C (nI e) (nI d) Q := by
  obtain ⟨b1, b2, b3, b4, b5, b6, b7, b8, b9, b10, b11, b12⟩ := hB
  refine ⟨fun c => absurd c (nI_pos (by omega)), fun _ => ⟨fun c => absurd c (by rw [b8]; exact nI_ge he (by omega)), fun _ => ⟨fun c => absurd c (nI_pos (by omega)), fun _ => ⟨fun c => absurd c (nI_ge hd (by decide)), fun _ => ?_⟩⟩⟩⟩
  refine ⟨fun c => absurd c (by decide), fun _ => ?_⟩
  rw [z_lin]
  exact ⟨vp_in_nI (by omega) (by decide), by rw [nI_clamp (by omega), (b10 _ (by omega)).1]; exact hq⟩
theorem z_townOfN {n w x e : Nat} {C R : Sg} {Q : Sg → Int32 → Prop} (hB : RelB n w x C R) (he : e < x) (hq : Q C (-1)) : wX0_townOf n C (nI e) (nI 0 - 1) Q := by
  obtain ⟨b1, b2, b3, b4, b5, b6, b7, b8, b9, b10, b11, b12⟩ := hB
  refine ⟨fun c => absurd c (nI_pos (by omega)), fun _ => ⟨fun c => absurd c (by rw [b8]; exact nI_ge he (by omega)), fun _ => ⟨fun _ => ?_, fun c => absurd (by decide) c⟩⟩⟩
  exact ⟨fun _ => hq, fun c => absurd rfl c⟩
theorem z_hasHourC {n w x e d h : Nat} {C R : Sg} {Q : Sg → Int32 → Prop} (hB : RelB n w x C R) (he : e < x) (hd : d < 60) (hh6 : h < 6) (h1 : hh R e d h → Q C 1) (h0 : ¬ hh R e d h → Q C 0) : wX0_hasHour n C (nI d) (nI h) (nI e) Q := by
  refine z_townOf hB he hd ⟨fun c => h0 (fun q => q.1 c), fun c => ⟨fun g => h1 ⟨c, Or.inl ?_⟩, fun g => ?_⟩⟩
  · rcases Nat.eq_zero_or_pos h with z | z
    · subst z; exact absurd g (by decide)
    · exact z
  · have hz : h = 0 := by
      rcases Nat.eq_zero_or_pos h with z | z
      · exact z
      · exact absurd (nI_lt (a := 0) z (by omega)) g
    subst hz
    cases d with
    | zero =>
      refine z_townOfN hB he ?_
      refine ⟨fun _ => ⟨fun c => absurd rfl c, fun _ => h1 ⟨c, Or.inr (Or.inl rfl)⟩⟩, fun c => absurd rfl c⟩
    | succ d =>
      rw [show nI (d + 1) - (1 : Int32) = nI d from nI_pred d]
      refine z_townOf hB he (by omega) ?_
      have hp : d + 1 - 1 = d := rfl
      refine ⟨fun c1 => ⟨fun c => absurd rfl c, fun _ => h1 ⟨c, Or.inr (Or.inr (Or.inl (by rw [hp]; exact c1)))⟩⟩, fun c1 => ⟨fun c2 => ⟨fun c => absurd rfl c, fun _ => h1 ⟨c, Or.inr (Or.inr (Or.inr (by rw [hp]; exact c2)))⟩⟩, fun c2 => ⟨fun _ => h0 (fun q => ?_), fun c => absurd c (by decide)⟩⟩⟩
      rcases q.2 with q | q | q | q
      · exact absurd q (by decide)
      · exact absurd q (by omega)
      · rw [hp] at q; exact c1 q
      · rw [hp] at q; exact c2 q
theorem z_tneg {n w x k : Nat} {C R : Sg} (hB : RelB n w x C R) (hk : k < 480) : gA R 26 k < 0 ↔ gA R 26 k = -1 := by
  rcases (hB.2.2.2.2.2.2.2.2.2.1 k hk).2 with q | ⟨t, ht, q⟩
  · rw [q]; decide
  · rw [q]
    constructor
    · intro c; exact absurd c (nI_pos (by omega))
    · intro c
      have := congrArg Int32.toInt c
      rw [nI_toInt (by omega)] at this
      have h9 : ((-1 : Int32)).toInt = -1 := by decide
      omega
theorem z_hasHourM {n w x e d h : Nat} {C R : Sg} {Q : Sg → Int32 → Prop} (hB : RelB n w x C R) (he : e < 8) (hd : d < 60) (hh6 : h < 6) (h1 : hh R e d h → Q R 1) (h0 : ¬ hh R e d h → Q R 0) : wX9_hasHour R (nI e) (nI d) (nI h) Q := by
  unfold wX9_hasHour
  rw [z_lin]
  refine ⟨vp_in_nI (by omega) (by decide), fun x1 e1 => ?_⟩
  rw [nI_clamp (by omega)] at e1
  subst e1
  have tn := z_tneg hB (k := 60 * e + d) (by omega)
  have hz : ¬ 0 < nI h → h = 0 := fun g => by
    rcases Nat.eq_zero_or_pos h with z | z
    · exact z
    · exact absurd (nI_lt (a := 0) z (by omega)) g
  have hp : 0 < nI h → 0 < h := fun g => by
    rcases Nat.eq_zero_or_pos h with z | z
    · subst z; exact absurd g (by decide)
    · exact z
  refine ⟨fun c => ?_, fun c => h0 (fun q => q.1 (tn.mp (Int32.not_le.mp c)))⟩
  have c : tw R e d ≠ -1 := fun q => absurd (tn.mpr q) (Int32.not_lt.mpr c)
  refine ⟨fun cd => ?_, fun cd => ?_⟩
  · cases d with
    | zero => exact absurd rfl cd
    | succ d =>
      rw [show nI (60 * e + (d + 1)) - (1 : Int32) = nI (60 * e + d) from nI_pred (60 * e + d)]
      refine ⟨vp_in_nI (by omega) (by decide), ?_⟩
      rw [nI_clamp (by omega)]
      have tn2 := z_tneg hB (k := 60 * e + d) (by omega)
      refine ⟨fun g => h1 ⟨c, Or.inl (hp g)⟩, fun g => ⟨fun q => h1 ⟨c, Or.inr (Or.inr (Or.inl (tn2.mp q)))⟩, fun q => ⟨fun q2 => h0 (fun z => ?_), fun q2 => h1 ⟨c, Or.inr (Or.inr (Or.inr q2))⟩⟩⟩⟩
      rcases z.2 with z | z | z | z
      · exact absurd (hz g) (by omega)
      · exact absurd z (by omega)
      · exact q (tn2.mpr z)
      · exact q2 z
  · have hd0 : d = 0 := by
      have := (nI_eq (a := d) (b := 0) (by omega) (by decide)).mp cd
      exact this
    exact ⟨fun g => h1 ⟨c, Or.inl (hp g)⟩, fun g => ⟨fun q => h1 ⟨c, Or.inr (Or.inl hd0)⟩, fun q => absurd (by decide) q⟩⟩
/-- the reference's search for who is booked in a slot -/
theorem z_bookedAt {n w x s : Nat} {C R : Sg} {Q : Sg → Int32 → Prop} (hB : RelB n w x C R) (hK : RelK n C R) (hs : s < 2880) (hq : Q R (gA C 2 s)) : wX9_bookedAt R (nI s) Q := by
  have hn : n ≤ 60 := hB.1
  have hc : gI R 30 = nI n := hB.2.2.2.2.1
  have loop : ∀ (k l : Nat) (fd : Int32), l + k = n → ((fd = -1 ∧ ∀ j, j < l → gA R 38 j = 1 → gA R 39 j ≠ nI s) ∨ ∃ j, j < l ∧ gA R 38 j = 1 ∧ gA R 39 j = nI s ∧ fd = nI j) → ∃ f, vX9_bookedAt_4 Q f R (nI s) fd (nI l) := by
    intro k
    induction k with
    | zero =>
      intro l fd hl hf
      refine ⟨1, fun _ => ?_, fun c => absurd (by rw [hc]; exact nI_le (by omega) (by omega)) c⟩
      have : fd = gA C 2 s := by
        rcases hf with ⟨e, g⟩ | ⟨j, j1, j2, j3, j4⟩ <;> rcases hK.2 s hs with ⟨e2, g2⟩ | ⟨i, i1, i2, i3, i4⟩
        · rw [e, e2]
        · exact absurd i3 (g i (by omega) i2)
        · exact absurd j3 (g2 j (by omega) j2)
        · rw [j4, i4, hK.1 j i (by omega) i1 j2 i2 (by rw [j3, i3])]
      rw [this]
      exact hq
    | succ k ih =>
      intro l fd hl hf
      have hin : vp_in (nI l) 60 := vp_in_nI (by omega) (by decide)
      have hcl : (nI l).toNatClampNeg = l := nI_clamp (by omega)
      by_cases hb : gA R 38 l = 1 ∧ gA R 39 l = nI s
      · obtain ⟨f, hf2⟩ := ih (l + 1) (nI l) (by omega) (Or.inr ⟨l, Nat.lt_succ_self l, hb.1, hb.2, rfl⟩)
        refine ⟨f + 1, fun c => absurd c (by rw [hc]; exact nI_ge (by omega) (by omega)), fun _ => ⟨hin, ?_⟩⟩
        rw [hcl]
        refine ⟨fun c => absurd hb.1 c, fun _ => ⟨hin, fun c => absurd hb.2 c, fun _ => ?_⟩⟩
        intro y ey
        rw [ey, nI_1]
        exact hf2
      · have hf' : (fd = -1 ∧ ∀ j, j < l + 1 → gA R 38 j = 1 → gA R 39 j ≠ nI s) ∨ ∃ j, j < l + 1 ∧ gA R 38 j = 1 ∧ gA R 39 j = nI s ∧ fd = nI j := by
          rcases hf with ⟨e, g⟩ | ⟨j, j1, j2⟩
          · refine Or.inl ⟨e, fun j hj h1 h2 => ?_⟩
            rcases Nat.lt_or_ge j l with q | q
            · exact g j q h1 h2
            · rw [show j = l by omega] at h1 h2; exact hb ⟨h1, h2⟩
          · exact Or.inr ⟨j, by omega, j2⟩
        obtain ⟨f, hf2⟩ := ih (l + 1) fd (by omega) hf'
        have go : vX9_bookedAt_36 (vX9_bookedAt_4 Q f) Q R (nI s) fd (nI l) := by
          intro y ey
          rw [ey, nI_1]
          exact hf2
        refine ⟨f + 1, fun c => absurd c (by rw [hc]; exact nI_ge (by omega) (by omega)), fun _ => ⟨hin, ?_⟩⟩
        rw [hcl]
        refine ⟨fun _ => go, fun c1 => ⟨hin, fun _ => go, fun c2 => absurd ⟨c1, c2⟩ hb⟩⟩
  exact loop n 0 (-1) (by omega) (Or.inl ⟨rfl, fun j hj => absurd hj (Nat.not_lt_zero j)⟩)
theorem z_isSlot {n s : Nat} {M : Sg} {Q : Sg → Int32 → Prop} (hs : s < 2880) (h : Q M 1) : wX0_isSlot n M (nI s) Q := ⟨fun c => absurd c (nI_pos (by omega)), fun _ => ⟨fun c => absurd c (nI_ge hs (by decide)), fun _ => h⟩⟩
theorem op_at {i n : Nat} {C R : Sg} {a b c : Int32} (h : Rel i n C R) : wX8_at n C a b c (fun C' r => wX9_at R a b c (Nx i n C' r)) := by
  have h0 := Rel_thr (v := 0) h
  obtain ⟨⟨w, x, hB, hL⟩, h3, -⟩ := id h0
  have b8 := hB.2.2.2.2.2.2.2.1
  have b9 := hB.2.2.2.2.2.2.2.2.1
  have b3 := hB.2.2.1
  have e59 : ∀ y : Int32, nI 60 ≤ y → (59 : Int32) < y := fun y hy => z_59.mpr hy
  have e5 : ∀ y : Int32, (5 : Int32) < y → nI 6 ≤ y := fun y hy => z_5.mp hy
  unfold wX8_at
  refine z_isDay (fun cd => ⟨fun _ => ?_, fun q => absurd rfl q⟩) (fun d hd ed => ⟨fun q => absurd q (by decide), fun _ => ?_⟩)
  · intro M1 e1
    subst e1
    refine ⟨fun _ => Nx_same h0, fun c1 => ⟨fun _ => Nx_same h0, fun c2 => ?_⟩⟩
    rcases cd with q | q
    · exact absurd q c1
    · exact absurd (e59 _ q) c2
  subst ed
  have m1 : ¬ nI d < 0 := nI_pos (by omega)
  have m2 : ¬ (59 : Int32) < nI d := fun q => absurd (z_59.mp q) (nI_ge hd (by decide))
  refine z_within (fun ch => ⟨fun _ => ?_, fun q => absurd rfl q⟩) (fun g1 g2 => ⟨fun q => absurd q (by decide), fun _ => ?_⟩)
  · intro M1 e1
    subst e1
    refine ⟨fun q => absurd q m1, fun _ => ⟨fun q => absurd q m2, fun _ => ⟨fun _ => Nx_same h0, fun c1 => ⟨fun _ => Nx_same h0, fun c2 => ?_⟩⟩⟩⟩
    rcases ch with q | q
    · exact absurd q c1
    · exact absurd q c2
  obtain ⟨hr, hh6, rfl⟩ : ∃ k, k < 6 ∧ b = nI k := by
    rcases z_ix b (k := 6) (by decide) with (q | q) | q
    · exact absurd q (Int32.not_lt.mpr g1)
    · exact absurd (z_5.mpr q) (Int32.not_lt.mpr g2)
    · exact q
  have m3 : ¬ nI hr < 0 := nI_pos (by omega)
  have m4 : ¬ (5 : Int32) < nI hr := Int32.not_lt.mpr g2
  refine z_isExaminer b8 b3 (fun ce => ⟨fun q => absurd rfl q, fun _ => ?_⟩) (fun ex hx ee => ⟨fun _ => ?_, fun q => absurd q (by decide)⟩)
  · intro M1 e1
    subst e1
    refine ⟨fun q => absurd q m1, fun _ => ⟨fun q => absurd q m2, fun _ => ⟨fun q => absurd q m3, fun _ => ⟨fun q => absurd q m4, fun _ => ⟨fun _ => Nx_same h0, fun c1 => ⟨fun c2 => absurd (by rw [← b9]; exact c2) (z_ltN ce c1), fun _ => Nx_same h0⟩⟩⟩⟩⟩⟩
  subst ee
  have start : ∀ Q : Sg → Int32 → Prop, (hh (sI R 0 0) ex d hr → ∀ r, r = gA C 2 (48 * d + 8 * hr + ex) → Q (sI R 0 0) r) → (¬ hh (sI R 0 0) ex d hr → Q (sI R 0 0) (-2)) → wX9_at R (nI d) (nI hr) (nI ex) Q := by
    intro Q q1 q2 M1 e1
    subst e1
    refine ⟨fun q => absurd q m1, fun _ => ⟨fun q => absurd q m2, fun _ => ⟨fun q => absurd q m3, fun _ => ⟨fun q => absurd q m4, fun _ => ⟨fun q => absurd q (nI_pos (by omega)), fun _ => ⟨fun _ => ?_, fun c2 => absurd (by rw [b9]; exact nI_lt hx (by omega)) c2⟩⟩⟩⟩⟩⟩
    refine z_hasHourM hB (by omega) hd hh6 (fun hq => ⟨fun _ => ?_, fun q => absurd q (by decide)⟩) (fun hq => ⟨fun q => absurd rfl q, fun _ => q2 hq⟩)
    rw [z_slot]
    exact z_bookedAt hB h3 (by omega) (q1 hq _ rfl)
  refine z_hasHourC hB hx hd hh6 (fun hq => ⟨fun _ => ?_, fun q => absurd q (by decide)⟩) (fun hq => ⟨fun q => absurd rfl q, fun _ => ?_⟩)
  · unfold wX8_slotOf wX0_bookedIn
    rw [z_slot]
    refine z_isSlot (by omega) ⟨fun q => absurd q (by decide), fun _ => ⟨vp_in_nI (by omega) (by decide), ?_⟩⟩
    rw [nI_clamp (by omega)]
    exact start _ (fun _ r hr => ⟨hr, Rel_mono h0 (Nat.le_succ i)⟩) (fun z => absurd hq z)
  · exact start _ (fun z => absurd z hq) (fun _ => Nx_same h0)
