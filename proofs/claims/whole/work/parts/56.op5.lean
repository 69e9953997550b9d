/-! days, place, held -/
theorem sA_id (M : Sg) (a j : Nat) : sA M a j (gA M a j) = M := by
  obtain ⟨m1, m2, m3⟩ := M
  show (m1, _, m3) = (m1, m2, m3)
  congr 2
  funext b
  show (if b = a then upd (m2 a) j (m2 a j) else m2 b) = m2 b
  by_cases e : b = a
  · subst e
    rw [if_pos rfl]
    funext k
    by_cases q : k = j
    · subst q; rw [pk_us]
    · rw [pk_un q]
  · rw [if_neg e]
theorem RC_at {p : Nat → Bool} {l : Nat} {C C' : Sg} (h : RC p l C C') : gA C' 58 l = gA C 58 l ∧ gA C' 59 l = gA C 59 l := by
  rw [h.2.1 l, h.2.2.1 l, if_neg (fun q => absurd q.1 (Nat.lt_irrefl l)), if_neg (fun q => absurd q.1 (Nat.lt_irrefl l))]; exact ⟨rfl, rfl⟩
theorem RM_at {p : Nat → Bool} {l : Nat} {R R' : Sg} (h : RM p l R R') : gA R' 38 l = gA R 38 l ∧ gA R' 39 l = gA R 39 l := by
  rw [h.2.1 l, h.2.2 l, if_neg (fun q => absurd q.1 (Nat.lt_irrefl l)), if_neg (fun q => absurd q.1 (Nat.lt_irrefl l))]; exact ⟨rfl, rfl⟩
theorem RC_I {p : Nat → Bool} {l : Nat} {C C' : Sg} (h : RC p l C C') (k : Nat) : gI C' k = gI C k := h.1.1 k (by simp)
theorem RM_I {p : Nat → Bool} {l : Nat} {R R' : Sg} (h : RM p l R R') (k : Nat) : gI R' k = gI R k := h.1.1 k (by simp)
theorem RC_A {p : Nat → Bool} {l : Nat} {C C' : Sg} (h : RC p l C C') (a : Nat) (h1 : a ≠ 2) (h2 : a ≠ 58) (h3 : a ≠ 59) : gA C' a = gA C a := h.1.2.1 a (by simp [h1, h2, h3])
theorem RM_A {p : Nat → Bool} {l : Nat} {R R' : Sg} (h : RM p l R R') (a : Nat) (h1 : a ≠ 38) (h2 : a ≠ 39) : gA R' a = gA R a := h.1.2.1 a (by simp [h1, h2])
theorem Rel_now {i n w : Nat} {C R : Sg} (h : Rel i n C R) (hw : w ≤ 59) : Rel i n (sI C 1 (nI w)) (sI R 24 (nI w)) := by
  obtain ⟨⟨w0, x, h1, h2⟩, h3, h4, ⟨m, h5⟩, h6, h7, h8, h9⟩ := h
  obtain ⟨b1, b2, b3, b4, b5, b6, b7, b8, b9, b10, b11, b12⟩ := h1
  exact ⟨⟨w, x, ⟨b1, hw, b3, b4, b5, rfl, rfl, b8, b9, b10, b11, b12⟩, RelL_R (RelL_C h2 rfl rfl rfl rfl rfl rfl rfl rfl rfl rfl rfl rfl) rfl rfl rfl rfl rfl rfl rfl rfl rfl rfl rfl⟩, RelK_R (RelK_C h3 rfl) rfl rfl, RelP_R (RelP_C h4 rfl rfl rfl rfl) rfl rfl rfl, ⟨m, RelS_R (RelS_C h5 rfl (fun _ _ => rfl)) rfl rfl rfl rfl rfl rfl rfl⟩, RelD_R (RelD_C h6 rfl rfl) rfl rfl, RelF_R (RelF_C h7 rfl rfl) rfl rfl, RelX_R (RelX_C h8 rfl rfl rfl rfl) rfl rfl rfl rfl rfl rfl, h9⟩
def pday (R : Sg) (w j : Nat) : Bool := decide (gA R 38 j = 1) && decide (gA R 39 j / (48 : Int32) < nI w)
theorem z_daysC {n w x : Nat} {C R : Sg} {Q : Sg → Int32 → Prop} (hB : RelB n w x C R) (hL : RelL n x C R) (hq : ∀ C', RC (pday R w) n C C' → Q C' (nI w)) : ∃ f, vX8_days_42 n Q f C (0 : Int32) := by
  have hn : n ≤ 60 := hB.1
  have hc : gI C 23 = nI n := hB.2.2.2.1
  have hw : gI C 1 = nI w := hB.2.2.2.2.2.1
  have loop : ∀ (k l : Nat) (C' : Sg), l + k = n → RC (pday R w) l C C' → ∃ f, vX8_days_42 n Q f C' (nI l) := by
    intro k
    induction k with
    | zero =>
      intro l C' hl h
      refine ⟨1, fun _ => ?_, fun c => absurd (by rw [RC_I h, hc]; exact nI_le (by omega) (by omega)) c⟩
      rw [RC_I h, hw]
      exact hq C' (by rw [← show l = n by omega]; exact h)
    | succ k ih =>
      intro l C' hl h
      have hin : vp_in (nI l) 60 := vp_in_nI (by omega) (by decide)
      have hcl : (nI l).toNatClampNeg = l := nI_clamp (by omega)
      obtain ⟨g1, g2, g3, g4, g5, g6, g7, g8, g9, g10, g11, g12, g13, g14, g15, g16, g17, g18, g19⟩ := hL l (by omega)
      have e8 : gA C' 58 l = gA R 38 l := (RC_at h).1.trans g9
      have e9 : gA C' 59 l = gA R 39 l := (RC_at h).2.trans g10
      cases hp : pday R w l with
      | false =>
        obtain ⟨f, hf⟩ := ih (l + 1) C' (by omega) (RC_skip h hp)
        have go : vX8_days_87 n (vX8_days_42 n Q f) Q C' (nI l) := by intro y ey; rw [ey, nI_1]; exact hf
        refine ⟨f + 1, fun c => absurd c (by rw [RC_I h, hc]; exact nI_ge (by omega) (by omega)), fun _ => ⟨⟨hin, by rw [hcl]; omega⟩, by rw [hcl]; omega, ?_⟩⟩
        rw [hcl, e8]
        refine ⟨fun _ => go, fun c => ⟨by omega, ?_⟩⟩
        refine ⟨fun _ => go, fun c2 => ?_⟩
        rw [RC_I h, hw, e9] at c2
        simp [pday, c, Int32.not_le.mp c2] at hp
      | true =>
        have hb : gA R 38 l = 1 ∧ gA R 39 l / (48 : Int32) < nI w := by simpa [pday] using hp
        obtain ⟨s, s1, s2, s3⟩ := g18 hb.1
        obtain ⟨f, hf⟩ := ih (l + 1) (relC C' s l) (by omega) (RC_rel h hp s1 (by rw [g10]; exact s3))
        refine ⟨f + 1, fun c => absurd c (by rw [RC_I h, hc]; exact nI_ge (by omega) (by omega)), fun _ => ⟨⟨hin, by rw [hcl]; omega⟩, by rw [hcl]; omega, ?_⟩⟩
        rw [hcl, e8]
        refine ⟨fun c => absurd hb.1 c, fun c => ⟨by omega, ?_⟩⟩
        refine ⟨fun c2 => ?_, fun c2 => z_release (by omega) s1 (by rw [e9]; exact s3) ?_⟩
        · rw [RC_I h, hw, e9] at c2
          exact absurd hb.2 (Int32.not_lt.mpr c2)
        · intro y ey
          rw [ey, nI_1]
          exact hf
  exact loop n 0 C (by omega) RC_0
theorem z_daysM {n w x : Nat} {C R : Sg} {Q : Sg → Int32 → Prop} (hB : RelB n w x C R) (hq : ∀ R', RM (pday R w) n R R' → Q R' (nI w)) : ∃ f, vX9_days_41 Q f R (0 : Int32) := by
  have hn : n ≤ 60 := hB.1
  have hc : gI R 30 = nI n := hB.2.2.2.2.1
  have hw : gI R 24 = nI w := hB.2.2.2.2.2.2.1
  have loop : ∀ (k l : Nat) (R' : Sg), l + k = n → RM (pday R w) l R R' → ∃ f, vX9_days_41 Q f R' (nI l) := by
    intro k
    induction k with
    | zero =>
      intro l R' hl h
      refine ⟨1, fun _ => ?_, fun c => absurd (by rw [RM_I h, hc]; exact nI_le (by omega) (by omega)) c⟩
      rw [RM_I h, hw]
      exact hq R' (by rw [← show l = n by omega]; exact h)
    | succ k ih =>
      intro l R' hl h
      have hin : vp_in (nI l) 60 := vp_in_nI (by omega) (by decide)
      have hcl : (nI l).toNatClampNeg = l := nI_clamp (by omega)
      have e8 : gA R' 38 l = gA R 38 l := (RM_at h).1
      have e9 : gA R' 39 l = gA R 39 l := (RM_at h).2
      cases hp : pday R w l with
      | false =>
        obtain ⟨f, hf⟩ := ih (l + 1) R' (by omega) (RM_skip h hp)
        have go : vX9_days_80 (vX9_days_41 Q f) Q R' (nI l) := by intro y ey; rw [ey, nI_1]; exact hf
        refine ⟨f + 1, fun c => absurd c (by rw [RM_I h, hc]; exact nI_ge (by omega) (by omega)), fun _ => ⟨hin, ?_⟩⟩
        rw [hcl, e8]
        refine ⟨fun _ => go, fun c => ⟨hin, fun _ => go, fun c2 => ?_⟩⟩
        rw [RM_I h, hw, e9] at c2
        simp [pday, c, Int32.not_le.mp c2] at hp
      | true =>
        have hb : gA R 38 l = 1 ∧ gA R 39 l / (48 : Int32) < nI w := by simpa [pday] using hp
        obtain ⟨f, hf⟩ := ih (l + 1) (relM R' l) (by omega) (RM_rel h hp)
        refine ⟨f + 1, fun c => absurd c (by rw [RM_I h, hc]; exact nI_ge (by omega) (by omega)), fun _ => ⟨hin, ?_⟩⟩
        rw [hcl, e8]
        refine ⟨fun c => absurd hb.1 c, fun c => ⟨hin, fun c2 => ?_, fun c2 => z_waits (by omega) ?_⟩⟩
        · rw [RM_I h, hw, e9] at c2
          exact absurd hb.2 (Int32.not_lt.mpr c2)
        · intro y ey
          rw [ey, nI_1]
          exact hf
  exact loop n 0 R (by omega) RM_0
theorem z_rng {a lo hi : Int32} {l h : Nat} (hl : lo = nI l) (hh : hi = nI h) (hlb : l < 2 ^ 31) (hb : h < 2 ^ 31 - 1) (g1 : lo ≤ a) (g2 : a ≤ hi) : ∃ k, l ≤ k ∧ k ≤ h ∧ a = nI k := by
  subst hl hh
  rcases z_ix a (k := h + 1) (by omega) with (q | q) | ⟨k, k1, k2⟩
  · exact absurd (Int32.lt_of_le_of_lt g1 q) (nI_pos hlb)
  · have := Int32.le_trans q g2
    rw [nI_leI (by omega) (by omega)] at this
    omega
  · subst k2
    rw [nI_leI hlb (by omega)] at g1
    exact ⟨k, g1, by omega, rfl⟩
theorem op_days {i n : Nat} {C R : Sg} {a : Int32} (h : Rel i n C R) : wX8_days n C a (fun C' r => wX9_days R a (Nx i n C' r)) := by
  have h0 := Rel_thr (v := 0) h
  obtain ⟨⟨w, x, hB, hL⟩, -⟩ := id h0
  obtain ⟨b1, b2, b3, b4, b5, b6, b7, b8, b9, b10, b11, b12⟩ := id hB
  unfold wX8_days
  refine z_within (fun c => ⟨fun _ => ?_, fun q => absurd rfl q⟩) (fun c1 c2 => ⟨fun q => absurd q (by decide), fun _ => ?_⟩)
  · intro M1 e1
    subst e1
    exact ⟨fun _ => Nx_same h0, fun d1 => ⟨fun _ => Nx_same h0, fun d2 => c.elim (fun q => absurd q d1) (fun q => absurd q d2)⟩⟩
  obtain ⟨k, k1, k2, rfl⟩ := z_rng (l := 1) (h := 59) rfl rfl (by decide) (by decide) c1 c2
  rw [b6, nI_add]
  have start : ∀ Q : Sg → Int32 → Prop, (¬ w + k ≤ 59 → Q (sI R 0 0) (-1)) → (w + k ≤ 59 → ∃ f, vX9_days_41 Q f (sI (sI R 0 0) 24 (nI (w + k))) 0) → wX9_days R (nI k) Q := by
    intro Q q1 q2 M1 e1
    subst e1
    refine ⟨fun q => absurd q (Int32.not_lt.mpr c1), fun _ => ⟨fun q => absurd q (Int32.not_lt.mpr c2), fun _ => ?_⟩⟩
    rw [b7, nI_add]
    have e : nI (w + k) ≤ (59 : Int32) ↔ w + k ≤ 59 := nI_leI (b := 59) (by omega) (by decide)
    exact ⟨fun q M2 e2 => by subst e2; exact q2 (e.mp q), fun q => q1 (fun z => q (e.mpr z))⟩
  refine z_isDay (fun c => ⟨fun q => absurd rfl q, fun _ => ?_⟩) (fun d hd e => ⟨fun _ => ?_, fun q => absurd q (by decide)⟩)
  · refine start _ (fun _ => Nx_same h0) (fun q => ?_)
    rcases c with z | z
    · exact absurd z (nI_pos (by omega))
    · rw [nI_leI (by decide) (by omega)] at z
      omega
  · rw [nI_eq (by omega) (by omega)] at e
    intro M5 e5
    subst e5
    rw [b6, nI_add]
    have h1 := Rel_now h0 (w := w + k) (by omega)
    obtain ⟨⟨w', x', hB', hL'⟩, -⟩ := id h1
    have ew : w' = w + k := (nI_eq (by have := hB'.2.1; omega) (by omega)).mp (hB'.2.2.2.2.2.1.symm.trans rfl)
    subst ew
    refine z_daysC hB' hL' (fun C' hC => ?_)
    refine start _ (fun q => absurd (by omega) q) (fun _ => z_daysM hB' (fun R' hR => ⟨rfl, ?_⟩))
    exact Rel_mono (Rel_waits h1 (fun j hj hp => by simp only [pday, Bool.and_eq_true, decide_eq_true_eq] at hp; exact hp.1) hC hR) (Nat.le_succ i)
/-! place -/
theorem Rel_town {i n x e d : Nat} {t : Int32} {C R : Sg} (h : Rel i n C R) (hx : gI C 0 = nI x) (hx8 : x ≤ 8) (he : e < x) (hd : d < 60) (ht : t = -1 ∨ ∃ v, v ≤ 5 ∧ t = nI v) : Rel i n (sA C 0 (60 * e + d) t) (sA R 26 (60 * e + d) t) := by
  obtain ⟨⟨w, x', h1, h2⟩, h3, h4, ⟨m, h5⟩, h6, h7, h8, h9⟩ := h
  obtain ⟨b1, b2, b3, b4, b5, b6, b7, b8, b9, b10, b11, b12⟩ := h1
  have ex : x' = x := (nI_eq (by omega) (by omega)).mp (b8.symm.trans hx)
  subst ex
  refine ⟨⟨w, x', ⟨b1, b2, b3, b4, b5, b6, b7, b8, b9, fun k hk => ?_, fun e' d' q1 q2 q3 => ?_, b12⟩, RelL_R (RelL_C h2 rfl rfl rfl rfl rfl rfl rfl rfl rfl rfl rfl rfl) rfl rfl rfl rfl rfl rfl rfl rfl rfl rfl rfl⟩, RelK_R (RelK_C h3 rfl) rfl rfl, RelP_R (RelP_C h4 rfl rfl rfl rfl) rfl rfl rfl, ⟨m, RelS_R (RelS_C h5 rfl (fun a q => by rw [gA_sA, if_neg (by omega)])) rfl rfl rfl rfl rfl rfl rfl⟩, RelD_R (RelD_C h6 rfl rfl) rfl rfl, RelF_R (RelF_C h7 rfl rfl) rfl rfl, RelX_R (RelX_C h8 rfl rfl rfl rfl) rfl rfl rfl rfl rfl rfl, h9⟩
  · show upd (gA C 0) _ _ k = upd (gA R 26) _ _ k ∧ (upd (gA R 26) _ _ k = -1 ∨ ∃ v, v ≤ 5 ∧ upd (gA R 26) _ _ k = nI v)
    by_cases q : k = 60 * e + d
    · subst q; rw [pk_us, pk_us]; exact ⟨rfl, ht⟩
    · rw [pk_un q, pk_un q]; exact b10 k hk
  · show upd (gA R 26) _ _ (60 * e' + d') = -1 ∧ gA R 28 e' = 0
    rw [pk_un (by omega)]
    exact b11 e' d' q1 q2 q3
def stw (M : Sg) (a e lo : Nat) (t : Int32) : Nat → Sg
  | 0 => M
  | k + 1 => sA (stw M a e lo t k) a (60 * e + (lo + k)) t
theorem stw_I (M : Sg) (a e lo : Nat) (t : Int32) (k r : Nat) : gI (stw M a e lo t k) r = gI M r := by
  induction k with
  | zero => rfl
  | succ k ih => exact ih
theorem Rel_towns {i n x e lo : Nat} {t : Int32} {C R : Sg} (h : Rel i n C R) (hx : gI C 0 = nI x) (hx8 : x ≤ 8) (he : e < x) (ht : t = -1 ∨ ∃ v, v ≤ 5 ∧ t = nI v) (k : Nat) (hk : lo + k ≤ 60) : Rel i n (stw C 0 e lo t k) (stw R 26 e lo t k) := by
  induction k with
  | zero => exact h
  | succ k ih => exact Rel_town (ih (by omega)) (by rw [stw_I]; exact hx) hx8 he (by omega) ht
theorem z_hour {s : Nat} (hs : s < 2880) : (nI s - nI s / (48 : Int32) * (48 : Int32)) / (8 : Int32) = nI (s % 48 / 8) := by
  rw [show nI s - nI s / (48 : Int32) * (48 : Int32) = nI (s % 48) from pk_rem (by omega) (by decide) (by decide)]
  exact pk_div (by omega) (by decide) (by decide)
/-- learner j may keep slot s -/
def stays (R : Sg) (s j : Nat) : Prop := hh R (s % 8) (s / 48) (s % 48 / 8) ∧ tw R (s % 8) (s / 48) = gA R 31 j
theorem z_still {n w x j s : Nat} {C R : Sg} {Q : Sg → Int32 → Prop} (hB : RelB n w x C R) (hj : j < n) (ht : gA C 52 j = gA R 31 j) (hs : s < 2880) (hx : s % 8 < x) (e : gA C 59 j = nI s) (h1 : stays R s j → Q C 1) (h0 : ¬ stays R s j → Q C 0) : wX8_isStillThere n C j Q := by
  refine ⟨hj, ?_⟩
  unfold wX8_dayOf
  refine ⟨hj, ?_⟩
  unfold wX8_examinerOf
  refine ⟨hj, ?_⟩
  unfold wX8_hourOf
  rw [e, z_hour hs, z_div48 hs, z_rem8 hs]
  refine z_hasHourC hB hx (by omega) (by omega) (fun c => ⟨fun q => absurd q (by decide), fun _ => ?_⟩) (fun c => ⟨fun _ => h0 (fun q => c q.1), fun q => absurd rfl q⟩)
  refine z_townOf hB hx (by omega) ⟨hj, ?_⟩
  rw [ht]
  exact ⟨fun q => h0 (fun z => q z.2), fun q => h1 ⟨c, q⟩⟩
theorem z_isThere {n w x s : Nat} {C R : Sg} {Q : Sg → Int32 → Prop} (hB : RelB n w x C R) (hs : s < 2880) (h1 : hh R (s % 8) (s / 48) (s % 48 / 8) → Q R 1) (h0 : ¬ hh R (s % 8) (s / 48) (s % 48 / 8) → Q R 0) : wX9_isThere R (nI s) Q := by
  unfold wX9_isThere
  rw [z_hour hs, z_div48 hs, z_rem8 hs]
  exact z_hasHourM hB (by omega) (by omega) (by omega) (fun c => ⟨rfl, h1 c⟩) (fun c => ⟨rfl, h0 c⟩)
noncomputable def pmis (R : Sg) (e j : Nat) : Bool := @decide (gA R 38 j = 1 ∧ ∃ s, s < 2880 ∧ gA R 39 j = nI s ∧ s % 8 = e ∧ ¬ stays R s j) (Classical.propDecidable _)
theorem pmis_t {R : Sg} {e j : Nat} : pmis R e j = true ↔ gA R 38 j = 1 ∧ ∃ s, s < 2880 ∧ gA R 39 j = nI s ∧ s % 8 = e ∧ ¬ stays R s j := by unfold pmis; exact @decide_eq_true_iff _ (Classical.propDecidable _)
theorem pmis_s {R : Sg} {e j s : Nat} (hs : s < 2880) (h1 : gA R 38 j = 1) (h2 : gA R 39 j = nI s) : pmis R e j = true ↔ s % 8 = e ∧ ¬ stays R s j := by
  rw [pmis_t]
  constructor
  · rintro ⟨-, s', a1, a2, a3⟩
    rw [h2, nI_eq (by omega) (by omega)] at a2
    subst a2
    exact a3
  · intro q
    exact ⟨h1, s, hs, h2, q⟩
theorem z_misC {n w x e : Nat} {C R : Sg} {Q : Sg → Int32 → Prop} (hB : RelB n w x C R) (hL : RelL n x C R) (he : e < x) (hq : ∀ C', RC (pmis R e) n C C' → Q C' (nI (cntB (pmis R e) n))) : wX8_releaseMisplaced n C (nI e) Q := by
  have hn : n ≤ 60 := hB.1
  have hc : gI C 23 = nI n := hB.2.2.2.1
  have hx8 : x ≤ 8 := hB.2.2.1
  have loop : ∀ (k l : Nat) (C' : Sg), l + k = n → RC (pmis R e) l C C' → ∃ f, vX8_releaseMisplaced_4 n Q f C' (nI e) (nI (cntB (pmis R e) l)) (nI l) := by
    intro k
    induction k with
    | zero =>
      intro l C' hl h
      refine ⟨1, fun _ => ?_, fun c => absurd (by rw [RC_I h, hc]; exact nI_le (by omega) (by omega)) c⟩
      rw [show l = n by omega] at h ⊢
      exact hq C' h
    | succ k ih =>
      intro l C' hl h
      have hin : vp_in (nI l) 60 := vp_in_nI (by omega) (by decide)
      have hcl : (nI l).toNatClampNeg = l := nI_clamp (by omega)
      obtain ⟨g1, g2, g3, g4, g5, g6, g7, g8, g9, g10, g11, g12, g13, g14, g15, g16, g17, g18, g19⟩ := hL l (by omega)
      have e8 : gA C' 58 l = gA R 38 l := (RC_at h).1.trans g9
      have e9 : gA C' 59 l = gA R 39 l := (RC_at h).2.trans g10
      have e2 : gA C' 52 l = gA R 31 l := by rw [RC_A h 52 (by decide) (by decide) (by decide)]; exact g3
      have hB' : RelB n w x C' R := RelB_C hB (RC_I h 0) (RC_I h 1) (RC_I h 23) (RC_A h 0 (by decide) (by decide) (by decide)) (RC_A h 1 (by decide) (by decide) (by decide))
      have skip : pmis R e l = false → ∃ f, vX8_releaseMisplaced_59 n (vX8_releaseMisplaced_4 n Q f) Q C' (nI e) (nI (cntB (pmis R e) l)) (nI l) := fun hp => by
        obtain ⟨f, hf⟩ := ih (l + 1) C' (by omega) (RC_skip h hp)
        refine ⟨f, ?_⟩
        intro y ey
        rw [ey, nI_1, cntB_f hp]
        exact hf
      by_cases hst : gA R 38 l = 1
      · obtain ⟨s, s1, s2, s3⟩ := g18 hst
        have hps := pmis_s (e := e) s1 hst s3
        by_cases hse : s % 8 = e
        · by_cases hy : stays R s l
          · have hp : pmis R e l = false := by
              cases hp : pmis R e l with
              | false => rfl
              | true => exact absurd hy (hps.mp hp).2
            obtain ⟨f, hf⟩ := skip hp
            refine ⟨f + 1, fun c => absurd c (by rw [RC_I h, hc]; exact nI_ge (by omega) (by omega)), fun _ => ⟨⟨hin, by rw [hcl]; omega⟩, by rw [hcl]; omega, ?_⟩⟩
            rw [hcl, e8]
            refine ⟨fun _ => hf, fun c => ⟨by omega, ?_⟩⟩
            refine ⟨fun _ => hf, fun _ => ?_⟩
            exact z_still hB' (by omega) e2 s1 s2 (e9.trans s3) (fun _ => ⟨fun _ => hf, fun q => absurd q (by decide)⟩) (fun q => absurd hy q)
          · have hp : pmis R e l = true := hps.mpr ⟨hse, hy⟩
            obtain ⟨f, hf⟩ := ih (l + 1) (relC C' s l) (by omega) (RC_rel h hp s1 (by rw [g10]; exact s3))
            refine ⟨f + 1, fun c => absurd c (by rw [RC_I h, hc]; exact nI_ge (by omega) (by omega)), fun _ => ⟨⟨hin, by rw [hcl]; omega⟩, by rw [hcl]; omega, ?_⟩⟩
            rw [hcl, e8]
            refine ⟨fun c => absurd hst c, fun c => ⟨by omega, ?_⟩⟩
            refine ⟨fun q => absurd ?_ q, fun _ => ?_⟩
            · rw [e9, s3, z_rem8 s1, hse]
            · refine z_still hB' (by omega) e2 s1 s2 (e9.trans s3) (fun q => absurd q hy) (fun _ => ⟨fun q => absurd rfl q, fun _ => z_release (by omega) s1 (by rw [e9]; exact s3) ?_⟩)
              intro y ey z ez
              rw [ez, ey, cntB_t hp, nI_1]
              exact hf
        · have hp : pmis R e l = false := by
            cases hp : pmis R e l with
            | false => rfl
            | true => exact absurd (hps.mp hp).1 hse
          obtain ⟨f, hf⟩ := skip hp
          refine ⟨f + 1, fun c => absurd c (by rw [RC_I h, hc]; exact nI_ge (by omega) (by omega)), fun _ => ⟨⟨hin, by rw [hcl]; omega⟩, by rw [hcl]; omega, ?_⟩⟩
          rw [hcl, e8]
          refine ⟨fun _ => hf, fun c => ⟨by omega, ?_⟩⟩
          refine ⟨fun _ => hf, fun q => absurd q ?_⟩
          rw [e9, s3, z_rem8 s1, nI_eq (by omega) (by omega)]
          exact hse
      · have hp : pmis R e l = false := by
          cases hp : pmis R e l with
          | false => rfl
          | true => exact absurd (pmis_t.mp hp).1 hst
        obtain ⟨f, hf⟩ := skip hp
        refine ⟨f + 1, fun c => absurd c (by rw [RC_I h, hc]; exact nI_ge (by omega) (by omega)), fun _ => ⟨⟨hin, by rw [hcl]; omega⟩, by rw [hcl]; omega, ?_⟩⟩
        rw [hcl, e8]
        exact ⟨fun _ => hf, fun c => absurd c hst⟩
  exact loop n 0 C (by omega) RC_0
theorem z_misM {n w x e : Nat} {C R : Sg} {Q : Sg → Int32 → Prop} (hB : RelB n w x C R) (hL : RelL n x C R) (he : e < x) (hq : ∀ R', RM (pmis R e) n R R' → Q R' (nI (cntB (pmis R e) n))) : ∃ f, vX9_place_85 Q f R (nI e) (0 : Int32) (0 : Int32) := by
  have hn : n ≤ 60 := hB.1
  have hc : gI R 30 = nI n := hB.2.2.2.2.1
  have hx8 : x ≤ 8 := hB.2.2.1
  have loop : ∀ (k l : Nat) (R' : Sg), l + k = n → RM (pmis R e) l R R' → ∃ f, vX9_place_85 Q f R' (nI e) (nI (cntB (pmis R e) l)) (nI l) := by
    intro k
    induction k with
    | zero =>
      intro l R' hl h
      refine ⟨1, fun _ => ?_, fun c => absurd (by rw [RM_I h, hc]; exact nI_le (by omega) (by omega)) c⟩
      rw [show l = n by omega] at h ⊢
      exact hq R' h
    | succ k ih =>
      intro l R' hl h
      have hin : vp_in (nI l) 60 := vp_in_nI (by omega) (by decide)
      have hcl : (nI l).toNatClampNeg = l := nI_clamp (by omega)
      obtain ⟨g1, g2, g3, g4, g5, g6, g7, g8, g9, g10, g11, g12, g13, g14, g15, g16, g17, g18, g19⟩ := hL l (by omega)
      have e8 : gA R' 38 l = gA R 38 l := (RM_at h).1
      have e9 : gA R' 39 l = gA R 39 l := (RM_at h).2
      have e26 : gA R' 26 = gA R 26 := RM_A h 26 (by decide) (by decide)
      have e31 : gA R' 31 = gA R 31 := RM_A h 31 (by decide) (by decide)
      have hB' : RelB n w x C R' := RelB_R hB (RM_I h 24) (RM_I h 25) (RM_I h 30) e26 (RM_A h 27 (by decide) (by decide)) (RM_A h 28 (by decide) (by decide))
      have etw : ∀ a b, tw R' a b = tw R a b := fun a b => by unfold tw; rw [e26]
      have ehh : ∀ a b c, hh R' a b c ↔ hh R a b c := fun a b c => by unfold hh; rw [etw, etw]
      have skip : pmis R e l = false → ∃ f, vX9_place_172 (vX9_place_85 Q f) Q R' (nI e) (nI (cntB (pmis R e) l)) (nI l) := fun hp => by
        obtain ⟨f, hf⟩ := ih (l + 1) R' (by omega) (RM_skip h hp)
        refine ⟨f, ?_⟩
        intro y ey
        rw [ey, nI_1, cntB_f hp]
        exact hf
      by_cases hst : gA R 38 l = 1
      · obtain ⟨s, s1, s2, s3⟩ := g18 hst
        have hps := pmis_s (e := e) s1 hst s3
        by_cases hse : s % 8 = e
        · have hin2 : vp_in (nI (60 * e + s / 48)) 480 := vp_in_nI (by omega) (by decide)
          by_cases hy : stays R s l
          · have hp : pmis R e l = false := by
              cases hp : pmis R e l with
              | false => rfl
              | true => exact absurd hy (hps.mp hp).2
            obtain ⟨f, hf⟩ := skip hp
            refine ⟨f + 1, fun c => absurd c (by rw [RM_I h, hc]; exact nI_ge (by omega) (by omega)), fun _ => ⟨hin, ?_⟩⟩
            rw [hcl, e8, e9, s3]
            refine ⟨fun _ => hf, fun c => ⟨hin, fun _ => hf, fun _ => ⟨hin, ?_⟩⟩⟩
            refine z_isThere hB' s1 (fun _ => ⟨fun q => absurd q (by decide), fun _ => ⟨hin, ?_⟩⟩) (fun q => absurd ((ehh _ _ _).mpr hy.1) q)
            rw [e9, s3, z_div48 s1, z_lin, nI_clamp (by omega)]
            refine ⟨hin2, hin, fun _ => hf, fun q => absurd ?_ q⟩
            rw [e26, e31, ← hse]
            exact hy.2
          · have hp : pmis R e l = true := hps.mpr ⟨hse, hy⟩
            obtain ⟨f, hf⟩ := ih (l + 1) (relM R' l) (by omega) (RM_rel h hp)
            have go : vX9_place_163 (vX9_place_85 Q f) Q R' (nI e) (nI (cntB (pmis R e) l)) (nI l) := by
              refine z_waits (by omega) ?_
              intro y ey z ez
              rw [ez, ey, cntB_t hp, nI_1]
              exact hf
            refine ⟨f + 1, fun c => absurd c (by rw [RM_I h, hc]; exact nI_ge (by omega) (by omega)), fun _ => ⟨hin, ?_⟩⟩
            rw [hcl, e8, e9, s3]
            refine ⟨fun c => absurd hst c, fun c => ⟨hin, fun q => absurd ?_ q, fun _ => ⟨hin, ?_⟩⟩⟩
            · rw [z_rem8 s1, hse]
            · refine z_isThere hB' s1 (fun hq => ⟨fun _ => go, fun _ => ⟨hin, ?_⟩⟩) (fun _ => ⟨fun _ => go, fun q => absurd rfl q⟩)
              rw [e9, s3, z_div48 s1, z_lin, nI_clamp (by omega)]
              refine ⟨hin2, hin, fun q => absurd ⟨(ehh _ _ _).mp hq, ?_⟩ hy, fun _ => go⟩
              rw [e26, e31, ← hse] at q
              exact q
        · have hp : pmis R e l = false := by
            cases hp : pmis R e l with
            | false => rfl
            | true => exact absurd (hps.mp hp).1 hse
          obtain ⟨f, hf⟩ := skip hp
          refine ⟨f + 1, fun c => absurd c (by rw [RM_I h, hc]; exact nI_ge (by omega) (by omega)), fun _ => ⟨hin, ?_⟩⟩
          rw [hcl, e8, e9, s3]
          refine ⟨fun _ => hf, fun c => ⟨hin, fun _ => hf, fun q => absurd q ?_⟩⟩
          rw [z_rem8 s1, nI_eq (by omega) (by omega)]
          exact hse
      · have hp : pmis R e l = false := by
          cases hp : pmis R e l with
          | false => rfl
          | true => exact absurd (pmis_t.mp hp).1 hst
        obtain ⟨f, hf⟩ := skip hp
        refine ⟨f + 1, fun c => absurd c (by rw [RM_I h, hc]; exact nI_ge (by omega) (by omega)), fun _ => ⟨hin, ?_⟩⟩
        rw [hcl, e8]
        exact ⟨fun _ => hf, fun c => absurd c hst⟩
  exact loop n 0 R (by omega) RM_0
theorem z_setTown {n x e d : Nat} {t : Int32} {M : Sg} {Q : Sg → Prop} (hx : gI M 0 = nI x) (hx8 : x ≤ 8) (he : e < x) (hd : d < 60) (h : Q (sA M 0 (60 * e + d) t)) : wX0_setTown n M (nI e) (nI d) t Q := by
  refine z_isExaminer hx hx8 (fun c => absurd c (fun q => q.elim (nI_pos (by omega)) (nI_ge he (by omega)))) (fun _ _ _ => ⟨fun q => absurd q (by decide), fun _ => ?_⟩)
  refine z_isDay (fun c => absurd c (fun q => q.elim (nI_pos (by omega)) (nI_ge hd (by omega)))) (fun _ _ _ => ⟨fun q => absurd q (by decide), fun _ => ?_⟩)
  rw [z_lin, nI_clamp (by omega)]
  exact ⟨vp_in_nI (by omega) (by decide), fun M5 e5 => by subst e5; exact h⟩
theorem z_placeC {n x e lo hi : Nat} {t : Int32} {M : Sg} {Q : Sg → Int32 → Prop} (hx : gI M 0 = nI x) (hx8 : x ≤ 8) (he : e < x) (hl : lo ≤ hi) (hh : hi < 60) (h : wX8_releaseMisplaced n (stw M 0 e lo t (hi + 1 - lo)) (nI e) Q) : ∃ f, vX8_place_61 n Q f M (nI e) t (nI hi) (nI lo) := by
  have loop : ∀ (k j : Nat), j + k = hi + 1 - lo → ∃ f, vX8_place_61 n Q f (stw M 0 e lo t j) (nI e) t (nI hi) (nI (lo + j)) := by
    intro k
    induction k with
    | zero =>
      intro j hj
      refine ⟨1, fun _ => ?_, fun c => absurd (nI_lt (by omega) (by omega)) c⟩
      rw [show j = hi + 1 - lo by omega]
      exact h
    | succ k ih =>
      intro j hj
      obtain ⟨f, hf⟩ := ih (j + 1) (by omega)
      refine ⟨f + 1, fun c => absurd c (nI_nlt (by omega) (by omega)), fun _ => z_setTown (by rw [stw_I]; exact hx) hx8 he (by omega) ?_⟩
      intro y ey
      rw [ey, nI_1]
      exact hf
  exact loop (hi + 1 - lo) 0 (by omega)
theorem z_placeM {e lo hi : Nat} {t : Int32} {M : Sg} {Q : Sg → Int32 → Prop} (he : e < 8) (hl : lo ≤ hi) (hh : hi < 60) (h : ∃ f, vX9_place_85 Q f (stw M 26 e lo t (hi + 1 - lo)) (nI e) (0 : Int32) (0 : Int32)) : ∃ f, vX9_place_53 Q f M (nI e) t (nI hi) (nI lo) := by
  have loop : ∀ (k j : Nat), j + k = hi + 1 - lo → ∃ f, vX9_place_53 Q f (stw M 26 e lo t j) (nI e) t (nI hi) (nI (lo + j)) := by
    intro k
    induction k with
    | zero =>
      intro j hj
      refine ⟨1, fun _ => ?_, fun c => absurd (nI_lt (by omega) (by omega)) c⟩
      rw [show j = hi + 1 - lo by omega]
      exact h
    | succ k ih =>
      intro j hj
      obtain ⟨f, hf⟩ := ih (j + 1) (by omega)
      refine ⟨f + 1, fun c => absurd c (nI_nlt (by omega) (by omega)), fun _ => ?_⟩
      rw [z_lin, nI_clamp (by omega)]
      refine ⟨vp_in_nI (by omega) (by decide), fun M1 e1 y ey => ?_⟩
      subst e1
      rw [ey, nI_1]
      exact hf
  exact loop (hi + 1 - lo) 0 (by omega)
theorem z_town {a : Int32} (g1 : (-1 : Int32) ≤ a) (g2 : a ≤ 5) : a = -1 ∨ ∃ v, v ≤ 5 ∧ a = nI v := by
  rcases z_ix a (k := 6) (by decide) with (q | q) | ⟨v, hv, e⟩
  · refine Or.inl (Int32.toInt_inj.mp ?_)
    rw [Int32.le_iff_toInt_le] at g1
    rw [Int32.lt_iff_toInt_lt] at q
    have z1 : ((-1 : Int32)).toInt = -1 := by decide
    have z2 : ((0 : Int32)).toInt = 0 := by decide
    omega
  · exact absurd (Int32.le_trans q g2) (by decide)
  · exact Or.inr ⟨v, by omega, e⟩
theorem op_place {i n : Nat} {C R : Sg} {a b c d : Int32} (h : Rel i n C R) : wX8_place n C a b c d (fun C' r => wX9_place R a b c d (Nx i n C' r)) := by
  have h0 := Rel_thr (v := 0) h
  obtain ⟨⟨w, x, hB, hL⟩, -⟩ := id h0
  obtain ⟨b1, b2, b3, b4, b5, b6, b7, b8, b9, b10, b11, b12⟩ := id hB
  have no : ∀ (C' : Sg) (r : Int32), C' = C → r = -1 → (a < 0 ∨ nI x ≤ a ∨ b < -1 ∨ 5 < b ∨ c ≤ nI w ∨ d < c ∨ nI 60 ≤ d) → wX9_place R a b c d (Nx i n C' r) := by
    intro C' r eC er hc M1 e1
    subst e1 eC er
    rw [b9, b7]
    refine ⟨fun _ => Nx_same h0, fun c1 => ⟨fun _ => Nx_same h0, fun c2 => ⟨fun _ => Nx_same h0, fun c3 => ⟨fun _ => Nx_same h0, fun c4 => ⟨fun _ => Nx_same h0, fun c5 => ⟨fun _ => Nx_same h0, fun c6 => ⟨fun c7 => ?_, fun _ => Nx_same h0⟩⟩⟩⟩⟩⟩⟩
    rcases hc with q | q | q | q | q | q | q
    · exact absurd q c1
    · exact absurd q c2
    · exact absurd q c3
    · exact absurd q c4
    · exact absurd q c5
    · exact absurd q c6
    · exact absurd (z_59.mpr q) (Int32.not_lt.mpr c7)
  refine z_isExaminer b8 b3 (fun ce => ⟨fun _ => ⟨fun _ => no C _ rfl rfl (ce.elim Or.inl (fun q => Or.inr (Or.inl q))), fun q => absurd rfl q⟩, fun q => absurd rfl q⟩) (fun e he ee => ⟨fun q => absurd q (by decide), fun _ => ?_⟩)
  refine z_within (fun cb => ⟨fun _ => ⟨fun _ => no C _ rfl rfl (cb.elim (fun q => Or.inr (Or.inr (Or.inl q))) (fun q => Or.inr (Or.inr (Or.inr (Or.inl q))))), fun q => absurd rfl q⟩, fun q => absurd rfl q⟩) (fun g1 g2 => ⟨fun q => absurd q (by decide), fun _ => ⟨fun q => absurd q (by decide), fun _ => ?_⟩⟩)
  rw [b6]
  refine ⟨fun q => no C _ rfl rfl (Or.inr (Or.inr (Or.inr (Or.inr (Or.inl q))))), fun c1 => ⟨fun q => no C _ rfl rfl (Or.inr (Or.inr (Or.inr (Or.inr (Or.inr (Or.inl q)))))), fun c2 => ⟨fun c3 => ?_, fun q => no C _ rfl rfl (Or.inr (Or.inr (Or.inr (Or.inr (Or.inr (Or.inr (Int32.not_lt.mp q)))))))⟩⟩⟩
  subst ee
  have hc0 : nI 0 ≤ c := Int32.le_trans (nI_pos' (n := w) (by omega)) (Int32.le_of_lt (Int32.not_le.mp c1))
  have hd59 : d ≤ (59 : Int32) := Int32.not_lt.mp (fun q => absurd (z_59.mp q) (Int32.not_le.mpr c3))
  obtain ⟨lo, -, l1, rfl⟩ := z_rng (l := 0) (h := 59) rfl rfl (by decide) (by decide) hc0 (Int32.le_trans (Int32.not_lt.mp c2) hd59)
  obtain ⟨hi, l2, l3, rfl⟩ := z_rng (l := lo) (h := 59) rfl rfl (by omega) (by decide) (Int32.not_lt.mp c2) hd59
  refine z_placeC b8 b3 he l2 (by omega) ?_
  have h1 := Rel_towns (lo := lo) h0 b8 b3 he (z_town g1 g2) (hi + 1 - lo) (by omega)
  obtain ⟨⟨w', x', hB', hL'⟩, -⟩ := id h1
  have ex : x' = x := (nI_eq (by have := hB'.2.2.1; omega) (by omega)).mp (hB'.2.2.2.2.2.2.2.1.symm.trans ((stw_I _ _ _ _ _ _ _).trans b8))
  subst ex
  refine z_misC hB' hL' he (fun C' hC => ?_)
  intro M1 e1
  subst e1
  rw [b9, b7]
  refine ⟨fun q => absurd q (nI_pos (by omega)), fun _ => ⟨fun q => absurd q (nI_ge he (by omega)), fun _ => ⟨fun q => absurd q (Int32.not_lt.mpr g1), fun _ => ⟨fun q => absurd q (Int32.not_lt.mpr g2), fun _ => ⟨fun q => absurd q c1, fun _ => ⟨fun q => absurd q c2, fun _ => ⟨fun _ => ?_, fun q => absurd hd59 q⟩⟩⟩⟩⟩⟩⟩
  refine z_placeM (by omega) l2 (by omega) (z_misM hB' hL' he (fun R' hR => ⟨rfl, ?_⟩))
  exact Rel_mono (Rel_waits h1 (fun j hj hp => (pmis_t.mp hp).1) hC hR) (Nat.le_succ i)
