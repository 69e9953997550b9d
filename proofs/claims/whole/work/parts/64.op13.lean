/-! booking -/
def bk (C : Sg) (s j : Nat) : Sg := sA (sA (sA C 2 s (nI j)) 59 j (nI s)) 58 j 1
def bkM (R : Sg) (s j : Nat) : Sg := sA (sA R 38 j 1) 39 j (nI s)
def RT (n w x : Nat) (C R : Sg) : Prop := RelB n w x C R ∧ RelL n x C R ∧ RelK n C R
theorem RT_R {n w x : Nat} {C R R' : Sg} (h : RT n w x C R) (a : ag [0] [22, 23, 43, 44] R R') : RT n w x C R' := by
  obtain ⟨h1, h2, h3⟩ := h
  exact ⟨RelB_R h1 (a.1 24 (by decide)) (a.1 25 (by decide)) (a.1 30 (by decide)) (a.2.1 26 (by decide)) (a.2.1 27 (by decide)) (a.2.1 28 (by decide)), RelL_R h2 (a.2.1 31 (by decide)) (a.2.1 32 (by decide)) (a.2.1 33 (by decide)) (a.2.1 34 (by decide)) (a.2.1 35 (by decide)) (a.2.1 36 (by decide)) (a.2.1 37 (by decide)) (a.2.1 38 (by decide)) (a.2.1 39 (by decide)) (a.2.1 40 (by decide)) (a.2.1 41 (by decide)), RelK_R h3 (a.2.1 38 (by decide)) (a.2.1 39 (by decide))⟩
theorem RT_C {n w x : Nat} {C R C' : Sg} (h : RT n w x C R) (a : ag [4] [5, 6, 7, 12] C C') : RT n w x C' R := by
  obtain ⟨h1, h2, h3⟩ := h
  exact ⟨RelB_C h1 (a.1 0 (by decide)) (a.1 1 (by decide)) (a.1 23 (by decide)) (a.2.1 0 (by decide)) (a.2.1 1 (by decide)), RelL_C h2 (a.2.1 50 (by decide)) (a.2.1 51 (by decide)) (a.2.1 52 (by decide)) (a.2.1 53 (by decide)) (a.2.1 54 (by decide)) (a.2.1 55 (by decide)) (a.2.1 56 (by decide)) (a.2.1 57 (by decide)) (a.2.1 58 (by decide)) (a.2.1 59 (by decide)) (a.2.1 60 (by decide)) (a.2.1 61 (by decide)), RelK_C h3 (a.2.1 2 (by decide))⟩
theorem RT_book {n w x j s : Nat} {C R : Sg} (h : RT n w x C R) (hj : j < n) (hst : gA R 38 j ≠ 1) (hs : s < 2880) (hx : s % 8 < x) (hf : ∀ l, l < n → gA R 38 l = 1 → gA R 39 l ≠ nI s) : RT n w x (bk C s j) (bkM R s j) := by
  obtain ⟨h1, h2, h3⟩ := h
  have e2 : ∀ k, gA (bk C s j) 2 k = if k = s then nI j else gA C 2 k := fun _ => rfl
  have e58 : ∀ k, gA (bk C s j) 58 k = if k = j then 1 else gA C 58 k := fun _ => rfl
  have e59 : ∀ k, gA (bk C s j) 59 k = if k = j then nI s else gA C 59 k := fun _ => rfl
  have e38 : ∀ k, gA (bkM R s j) 38 k = if k = j then 1 else gA R 38 k := fun _ => rfl
  have e39 : ∀ k, gA (bkM R s j) 39 k = if k = j then nI s else gA R 39 k := fun _ => rfl
  refine ⟨RelB_R (RelB_C h1 rfl rfl rfl rfl rfl) rfl rfl rfl rfl rfl, fun k hk => ?_, ⟨fun a b ha hb q1 q2 q3 => ?_, fun s' hs' => ?_⟩⟩
  · obtain ⟨g1, g2, g3, g4, g5, g6, g7, g8, g9, g10, g11, g12, g13, g14, g15, g16, g17, g18, g19⟩ := h2 k hk
    refine ⟨g1, g2, g3, g4, g5, g6, g7, g8, by rw [e58, e38, g9], by rw [e59, e39, g10], g11, g12, g13, g14, g15, g16, ?_, ?_, ?_⟩
    · rw [e38]
      by_cases z : k = j
      · rw [if_pos z]; exact ⟨1, by omega, rfl⟩
      · rw [if_neg z]; exact g17
    · rw [e38, e39]
      by_cases z : k = j
      · rw [if_pos z, if_pos z]; exact fun _ => ⟨s, hs, hx, rfl⟩
      · rw [if_neg z, if_neg z]; exact g18
    · rw [e38, e39]
      by_cases z : k = j
      · rw [if_pos z]; exact fun q => absurd rfl q
      · rw [if_neg z, if_neg z]; exact g19
  · rw [e38] at q1 q2
    rw [e39, e39] at q3
    by_cases za : a = j
    · by_cases zb : b = j
      · rw [za, zb]
      · rw [if_pos za, if_neg zb] at q3
        rw [if_neg zb] at q2
        exact absurd q3.symm (hf b hb q2)
    · by_cases zb : b = j
      · rw [if_neg za, if_pos zb] at q3
        rw [if_neg za] at q1
        exact absurd q3 (hf a ha q1)
      · rw [if_neg za, if_neg zb] at q3
        rw [if_neg za] at q1
        rw [if_neg zb] at q2
        exact h3.1 a b ha hb q1 q2 q3
  · by_cases zs : s' = s
    · subst zs
      refine Or.inr ⟨j, hj, by rw [e38, if_pos rfl], by rw [e39, if_pos rfl], by rw [e2, if_pos rfl]⟩
    · rw [e2, if_neg zs]
      rcases h3.2 s' hs' with ⟨e, g⟩ | ⟨k, k1, k2, k3, k4⟩
      · refine Or.inl ⟨e, fun l hl q1 q2 => ?_⟩
        rw [e38] at q1
        rw [e39] at q2
        by_cases z : l = j
        · rw [if_pos z, nI_eq (by omega) (by omega)] at q2; exact zs q2.symm
        · rw [if_neg z] at q1 q2; exact g l hl q1 q2
      · have z : k ≠ j := fun z => hst (by rw [← z]; exact k2)
        exact Or.inr ⟨k, k1, by rw [e38, if_neg z]; exact k2, by rw [e39, if_neg z]; exact k3, k4⟩
theorem z_book {n w x j s : Nat} {C R : Sg} {Q : Sg → Prop} (hL : RelL1 x C R j) (hj : j < n) (hs : s < 2880) (hq : Q (bk C s j)) : wX8_book n C j (nI s) Q := by
  unfold wX8_book wX0_setBooked
  rw [hL.1]
  refine ⟨hj, z_isSlot hs ⟨fun q => absurd q (by decide), fun _ => ⟨vp_in_nI hs (by decide), fun M3 e3 => ⟨hj, fun M4 e4 => ⟨hj, fun M5 e5 => ?_⟩⟩⟩⟩⟩
  rw [nI_clamp (by omega)] at e3
  subst e3 e4 e5
  exact hq
theorem z_books {j s : Nat} {R : Sg} {Q : Sg → Prop} (hj : j < 60) (hq : Q (bkM R s j)) : wX9_books R (nI j) (nI s) Q := by
  have hin : vp_in (nI j) 60 := vp_in_nI hj (by decide)
  unfold wX9_books
  rw [nI_clamp (by omega)]
  exact ⟨hin, fun M1 e1 => ⟨hin, fun M2 e2 => by subst e1 e2; exact hq⟩⟩
/-! dealing along a line -/
noncomputable def lf (n w x : Nat) (R : Sg) (j : Nat) : Option Nat := @dite _ (∃ s, s < 2880 ∧ okS n w x R j s) (Classical.propDecidable _) (fun h => some (Classical.choose (pk_least _ h))) (fun _ => none)
theorem lf_spec (n w x : Nat) (R : Sg) (j : Nat) : (lf n w x R j = none ∧ ∀ s, s < 2880 → ¬ okS n w x R j s) ∨ ∃ s, lf n w x R j = some s ∧ s < 2880 ∧ okS n w x R j s ∧ ∀ s', s' < s → ¬ okS n w x R j s' := by
  unfold lf
  by_cases h : ∃ s, s < 2880 ∧ okS n w x R j s
  · rw [dif_pos h]
    have hs := Classical.choose_spec (pk_least _ h)
    refine Or.inr ⟨_, rfl, hs.1.1, hs.1.2, fun s' hs' q => hs.2 s' hs' ⟨by have := hs.1.1; omega, q⟩⟩
  · rw [dif_neg h]
    exact Or.inl ⟨rfl, fun s hs q => h ⟨s, hs, q⟩⟩
theorem lf_cong {n w x : Nat} {R R' : Sg} {j : Nat} (h : ∀ s, okS n w x R' j s ↔ okS n w x R j s) : lf n w x R' j = lf n w x R j := by
  rcases lf_spec n w x R' j with ⟨e1, g1⟩ | ⟨s1, e1, a1, b1, c1⟩ <;> rcases lf_spec n w x R j with ⟨e2, g2⟩ | ⟨s2, e2, a2, b2, c2⟩
  · rw [e1, e2]
  · exact absurd ((h s2).mpr b2) (g1 s2 a2)
  · exact absurd ((h s1).mp b1) (g2 s1 a1)
  · rcases Nat.lt_trichotomy s1 s2 with z | z | z
    · exact absurd ((h s1).mp b1) (c2 s1 z)
    · rw [e1, e2, z]
    · exact absurd ((h s2).mpr b2) (c1 s2 z)
noncomputable def dl (n w x : Nat) (g : Nat → Nat) : Nat → Nat → Sg → Sg → Sg × Sg × Nat
  | 0, _, C, R => (C, R, 0)
  | d + 1, k, C, R => match lf n w x R (g k) with
    | none => dl n w x g d (k + 1) C (sA R 44 (g k) 0)
    | some s => ((dl n w x g d (k + 1) (bk C s (g k)) (bkM (sA R 44 (g k) 0) s (g k))).1, (dl n w x g d (k + 1) (bk C s (g k)) (bkM (sA R 44 (g k) 0) s (g k))).2.1, (dl n w x g d (k + 1) (bk C s (g k)) (bkM (sA R 44 (g k) 0) s (g k))).2.2 + 1)
theorem dl_n {n w x : Nat} {g : Nat → Nat} {d k : Nat} {C R : Sg} (h : lf n w x R (g k) = none) : dl n w x g (d + 1) k C R = dl n w x g d (k + 1) C (sA R 44 (g k) 0) := by rw [dl, h]
theorem dl_s {n w x : Nat} {g : Nat → Nat} {d k s : Nat} {C R : Sg} (h : lf n w x R (g k) = some s) : dl n w x g (d + 1) k C R = ((dl n w x g d (k + 1) (bk C s (g k)) (bkM (sA R 44 (g k) 0) s (g k))).1, (dl n w x g d (k + 1) (bk C s (g k)) (bkM (sA R 44 (g k) 0) s (g k))).2.1, (dl n w x g d (k + 1) (bk C s (g k)) (bkM (sA R 44 (g k) 0) s (g k))).2.2 + 1) := by rw [dl, h]
/-- what holds along the way -/
def DL (n w x s : Nat) (g : Nat → Nat) (k : Nat) (C R : Sg) : Prop := RT n w x C R ∧ (∀ i, i < s → g i < n) ∧ (∀ i j, i < s → j < s → g i = g j → i = j) ∧ ∀ i, k ≤ i → i < s → gA R 38 (g i) = 0
theorem DL_n {n w x s k : Nat} {g : Nat → Nat} {C R : Sg} (h : DL n w x s g k C R) : DL n w x s g (k + 1) C (sA R 44 (g k) 0) := by
  obtain ⟨h1, h2, h3, h4⟩ := h
  exact ⟨RT_R h1 (ag_sA ag_rf (by decide)), h2, h3, fun i hi1 hi2 => h4 i (by omega) hi2⟩
theorem DL_s {n w x s k t : Nat} {g : Nat → Nat} {C R : Sg} (h : DL n w x s g k C R) (hk : k < s) (ht : t < 2880) (ho : okS n w x R (g k) t) : DL n w x s g (k + 1) (bk C t (g k)) (bkM (sA R 44 (g k) 0) t (g k)) := by
  obtain ⟨h1, h2, h3, h4⟩ := h
  have h0 := h4 k (Nat.le_refl k) hk
  refine ⟨RT_book (RT_R h1 (ag_sA ag_rf (by decide))) (h2 k hk) (by show gA R 38 (g k) ≠ 1; rw [h0]; decide) ht ho.1.2.2.1 ho.1.2.2.2.2, h2, h3, fun i hi1 hi2 => ?_⟩
  show upd (gA R 38) (g k) 1 (g i) = 0
  rw [pk_un (fun e => by have := h3 i k hi2 hk e; omega)]
  exact h4 i (by omega) hi2
theorem dl_ok {n w x s : Nat} {g : Nat → Nat} : ∀ (d k : Nat) (C R : Sg), k + d = s → DL n w x s g k C R → RT n w x (dl n w x g d k C R).1 (dl n w x g d k C R).2.1 ∧ ag [] [2, 58, 59] C (dl n w x g d k C R).1 ∧ ag [] [38, 39, 44] R (dl n w x g d k C R).2.1 := by
  intro d
  induction d with
  | zero => intro k C R _ h; exact ⟨h.1, ag_rf, ag_rf⟩
  | succ d ih =>
    intro k C R hk h
    rcases lf_spec n w x R (g k) with ⟨e, -⟩ | ⟨t, e, t1, t2, t3⟩
    · rw [dl_n e]
      obtain ⟨a, b, c⟩ := ih (k + 1) C (sA R 44 (g k) 0) (by omega) (DL_n h)
      exact ⟨a, b, ag_tr (ag_sA ag_rf (by decide)) c⟩
    · rw [dl_s e]
      obtain ⟨a, b, c⟩ := ih (k + 1) (bk C t (g k)) (bkM (sA R 44 (g k) 0) t (g k)) (by omega) (DL_s h (by omega) t1 t2)
      exact ⟨a, ag_tr (ag_sA (ag_sA (ag_sA ag_rf (by decide)) (by decide)) (by decide)) b, ag_tr (ag_sA (ag_sA (ag_sA ag_rf (by decide)) (by decide)) (by decide)) c⟩
theorem z_dealC {n w x s : Nat} {g : Nat → Nat} {r : Nat → Int32} {Q : Sg → Int32 → Prop} : ∀ (d k c : Nat) (C R : Sg), k + d = s → DL n w x s g k C R → LnR C r s g → Q (dl n w x g d k C R).1 (nI (c + (dl n w x g d k C R).2.2)) → vX8_dealLine_4 n Q (d + 1) C (nI c) (nI k) := by
  intro d
  induction d with
  | zero =>
    intro k c C R hk h hl hq
    have ek : k = s := by omega
    subst ek
    exact ⟨fun _ => hq, fun q => absurd (by rw [hl.2.1]; exact Int32.le_refl _) q⟩
  | succ d ih =>
    intro k c C R hk h hl hq
    obtain ⟨l1, l2, l3⟩ := id hl
    have hn : n ≤ 60 := h.1.1.1
    have hgk : g k < n := h.2.1 k (by omega)
    have hin : vp_in (nI k) 60 := vp_in_nI (by omega) (by decide)
    have hcl : (nI k).toNatClampNeg = k := nI_clamp (by omega)
    refine ⟨fun q => absurd q (by rw [l2]; exact nI_ge (by omega) (by omega)), fun _ => ⟨hin, ?_⟩⟩
    rw [hcl, (l3 k (by omega)).1]
    refine z_find hn h.1.1.2.2.2.1 (fun q => absurd q (fun q => q.elim (fun q => absurd q (nI_pos (by omega))) (fun q => absurd q (nI_ge hgk (by omega))))) (fun j hj ej => ⟨fun q => absurd q (by simp), fun j3 e3 => ?_⟩)
    have ejk : j = g k := (nI_eq (by omega) (by omega)).mp ej.symm
    have e3' : j3 = g k := by rw [← ejk]; exact (Option.some.inj e3).symm
    subst e3'
    refine ⟨hgk, hgk, hgk, hgk, ?_⟩
    refine z_leastC h.1.1 (h.1.2.1 (g k) hgk) h.1.2.2 (fun hN => ⟨fun q => absurd rfl q, fun _ => ⟨fun _ y ey => ?_, fun q => absurd rfl q⟩⟩) (fun t t1 t2 t3 => ⟨fun _ => ?_, fun q => absurd q (z_m1 t1)⟩)
    · have e : lf n w x R (g k) = none := by
        rcases lf_spec n w x R (g k) with ⟨e, -⟩ | ⟨t, e, t1, t2, t3⟩
        · exact e
        · exact absurd t2 (hN t t1)
      rw [dl_n e] at hq
      rw [ey, nI_1]
      exact ih (k + 1) c C (sA R 44 (g k) 0) (by omega) (DL_n h) hl hq
    · have e : lf n w x R (g k) = some t := by
        rcases lf_spec n w x R (g k) with ⟨e, e2⟩ | ⟨t', e, u1, u2, u3⟩
        · exact absurd t2 (e2 t t1)
        · rcases Nat.lt_trichotomy t t' with z | z | z
          · exact absurd t2 (u3 t z)
          · rw [z]; exact e
          · exact absurd u2 (t3 t' z)
      rw [dl_s e] at hq
      refine z_book (w := w) (h.1.2.1 (g k) hgk) hgk t1 ?_
      refine ⟨fun q => absurd q (by decide), fun _ => ?_⟩
      intro y ey z ez
      rw [ez, ey, nI_1, nI_1]
      refine ih (k + 1) (c + 1) (bk C t (g k)) _ (by omega) (DL_s h (by omega) t1 t2) ⟨l1, l2, l3⟩ ?_
      rw [show c + 1 + (dl n w x g d (k + 1) (bk C t (g k)) (bkM (sA R 44 (g k) 0) t (g k))).2.2 = c + ((dl n w x g d (k + 1) (bk C t (g k)) (bkM (sA R 44 (g k) 0) t (g k))).2.2 + 1) by omega]
      exact hq
theorem z_firstDealt {n : Nat} {r : Nat → Int32} {R : Sg} {Q : Sg → Int32 → Prop} (hn : n ≤ 60) (hc : gI R 30 = nI n) (hr : ∀ j, j < n → gA R 43 j = r j) (hN : (∀ j, j < n → gA R 44 j = 0) → Q R (-1)) (hS : ∀ j, j < n → ¬ gA R 44 j = 0 → (∀ k, k < n → ¬ gA R 44 k = 0 → k ≠ j → ahd r j k) → Q R (nI j)) : wX9_firstDealt R Q := by
  have loop : ∀ (k l : Nat) (v : Int32), l + k = n → ((v = -1 ∧ ∀ j, j < l → gA R 44 j = 0) ∨ ∃ j, j < l ∧ v = nI j ∧ ¬ gA R 44 j = 0 ∧ ∀ k, k < l → ¬ gA R 44 k = 0 → k ≠ j → ahd r j k) → vX9_firstDealt_4 Q (k + 1) R v (nI l) := by
    intro k
    induction k with
    | zero =>
      intro l v hl h
      have el : l = n := by omega
      subst el
      refine ⟨fun _ => ?_, fun c => absurd (by rw [hc]; exact Int32.le_refl _) c⟩
      rcases h with ⟨e, h⟩ | ⟨j, j1, j2, j3, j4⟩
      · rw [e]; exact hN h
      · rw [j2]; exact hS j j1 j3 j4
    | succ k ih =>
      intro l v hl h
      have hin : vp_in (nI l) 60 := vp_in_nI (by omega) (by decide)
      have hcl : (nI l).toNatClampNeg = l := nI_clamp (by omega)
      have go : ∀ u, ((u = -1 ∧ ∀ j, j < l + 1 → gA R 44 j = 0) ∨ ∃ j, j < l + 1 ∧ u = nI j ∧ ¬ gA R 44 j = 0 ∧ ∀ k, k < l + 1 → ¬ gA R 44 k = 0 → k ≠ j → ahd r j k) → vX9_firstDealt_39 (vX9_firstDealt_4 Q (k + 1)) Q R (nI l) u := fun u hu y ey => by
        rw [ey, nI_1]
        exact ih (l + 1) u (by omega) hu
      refine ⟨fun c => absurd c (by rw [hc]; exact nI_ge (by omega) (by omega)), fun _ => ⟨hin, ?_⟩⟩
      rw [hcl]
      refine ⟨fun c => go v ?_, fun c => ?_⟩
      · rcases h with ⟨e, h⟩ | ⟨j, j1, j2, j3, j4⟩
        · refine Or.inl ⟨e, fun j hj => ?_⟩
          by_cases z : j = l
          · rw [z]; exact c
          · exact h j (by omega)
        · refine Or.inr ⟨j, by omega, j2, j3, fun k hk q1 q2 => ?_⟩
          by_cases z : k = l
          · rw [z] at q1; exact absurd c q1
          · exact j4 k (by omega) q1 q2
      · rcases h with ⟨e, h⟩ | ⟨j, j1, j2, j3, j4⟩
        · refine ⟨fun _ => go (nI l) (Or.inr ⟨l, Nat.lt_succ_self l, rfl, c, fun k hk q1 q2 => absurd (h k (by omega)) q1⟩), fun q => absurd (by rw [e]; decide) q⟩
        · refine ⟨fun q => absurd q (by rw [j2]; exact nI_pos (by omega)), fun _ => ?_⟩
          rw [j2]
          refine z_isAhead (r := r) (by omega) (by omega) (hr l (by omega)) (hr j (by omega)) (fun q => ⟨fun q => absurd q (by decide), fun _ => go (nI l) (Or.inr ⟨l, Nat.lt_succ_self l, rfl, c, fun k hk q1 q2 => ?_⟩)⟩) (fun q => ⟨fun _ => go (nI j) (Or.inr ⟨j, by omega, rfl, j3, fun k hk q1 q2 => ?_⟩), fun q => absurd rfl q⟩)
          · by_cases z : k = j
            · rw [z]; exact q
            · exact ahd_tr q (j4 k (by omega) q1 z)
          · by_cases z : k = l
            · rw [z]
              rcases ahd_tot (r := r) (show l ≠ j by omega) with y | y
              · exact absurd y q
              · exact y
            · exact j4 k (by omega) q1 q2
  exact ⟨n + 1, loop n 0 (-1) (by omega) (Or.inl ⟨rfl, fun j hj => absurd hj (Nat.not_lt_zero j)⟩)⟩
theorem z_scan {n w x j c : Nat} {C R : Sg} {K11 : Sg → Int32 → Int32 → Prop} {Q : Sg → Int32 → Prop} (h : RT n w x C R) (hj : j < n) (h0 : gA R 38 j = 0) (hN : (∀ s, s < 2880 → ¬ okS n w x R j s) → vX9_deals_80 K11 Q R (nI c)) (hS : ∀ s, s < 2880 → okS n w x R j s → (∀ s', s' < s → ¬ okS n w x R j s') → vX9_deals_80 K11 Q (bkM R s j) (nI (c + 1))) : ∃ f, vX9_deals_32 K11 Q f R (nI c) (nI j) (nI (48 * (w + 1))) := by
  have hn : n ≤ 60 := h.1.1
  have hw : w ≤ 59 := h.1.2.1
  have hin : vp_in (nI j) 60 := vp_in_nI (by omega) (by decide)
  have hcl : (nI j).toNatClampNeg = j := nI_clamp (by omega)
  have e28 : (2880 : Int32) = nI 2880 := rfl
  have loop : ∀ (k s : Nat), s + k = 2880 → (∀ s', s' < s → ¬ okS n w x R j s') → vX9_deals_32 K11 Q (k + 2) R (nI c) (nI j) (nI s) := by
    intro k
    induction k with
    | zero =>
      intro s hs hn'
      exact ⟨fun _ => hN (fun s' q => hn' s' (by omega)), fun q => absurd (by rw [show s = 2880 by omega]; decide) q⟩
    | succ k ih =>
      intro s hs hn'
      have s28 : s < 2880 := by omega
      refine ⟨fun q => absurd q (by rw [e28]; exact nI_ge (by omega) (by decide)), fun _ => ⟨hin, ?_⟩⟩
      rw [hcl]
      refine ⟨fun q => absurd h0 q, fun _ => ?_⟩
      have next : ¬ okS n w x R j s → vX9_deals_74 K11 (vX9_deals_32 K11 Q (k + 2)) Q R (nI c) (nI j) (nI s) := fun q y ey => by
        rw [ey, nI_1]
        refine ih (s + 1) (by omega) (fun s' q' => ?_)
        by_cases z : s' = s
        · rw [z]; exact q
        · exact hn' s' (by omega)
      refine z_freeM h.1 h.2.2 s28 (fun hf => ⟨fun q => absurd q (by decide), fun _ => ?_⟩) (fun hf => ⟨fun _ => next (fun q => hf q.1), fun q => absurd rfl q⟩)
      refine z_suitsM h.1 s28 (by omega) (fun hu => ⟨fun q => absurd q (by decide), fun _ => ?_⟩) (fun hu => ⟨fun _ => next (fun q => hu q.2), fun q => absurd rfl q⟩)
      refine z_books (by omega) ?_
      intro y ey z ez
      have done := hS s s28 ⟨hf, hu⟩ hn'
      rw [ez, ey, nI_1, nI_1]
      refine ⟨fun _ => done, fun q => ⟨hin, fun _ => done, fun q => ?_⟩⟩
      rw [hcl, show gA (bkM R s j) 38 j = 1 from (pk_us : upd (gA R 38) j 1 j = 1)] at q
      exact absurd q (by decide)
  refine ⟨_, loop (2880 - 48 * (w + 1)) (48 * (w + 1)) (by omega) (fun s' q z => ?_)⟩
  have := z.1.1
  omega
theorem z_dealM {n w x s : Nat} {g : Nat → Nat} {r : Nat → Int32} {Q : Sg → Int32 → Prop} : ∀ (d k c : Nat) (C R : Sg) (P : Sg → Int32 → Prop), k + d = s → DL n w x s g k C R → srt r s g → (∀ j, j < n → gA R 43 j = r j) → (∀ j, j < n → (¬ gA R 44 j = 0 ↔ ∃ i, k ≤ i ∧ i < s ∧ g i = j)) → Q (dl n w x g d k C R).2.1 (nI (c + (dl n w x g d k C R).2.2)) → (∀ M1 r1, vX9_deals_11 Q (d + 1) M1 (nI c) r1 → P M1 r1) → wX9_firstDealt R P := by
  intro d
  induction d with
  | zero =>
    intro k c C R P hk h hs hr hd hq hP
    refine z_firstDealt h.1.1.1 h.1.1.2.2.2.2.1 hr (fun _ => hP _ _ ⟨fun _ => hq, fun q => absurd (by decide) q⟩) (fun j hj q _ => ?_)
    obtain ⟨i, i1, i2, -⟩ := (hd j hj).mp q
    omega
  | succ d ih =>
    intro k c C R P hk h hs hr hd hq hP
    have hn : n ≤ 60 := h.1.1.1
    have hgk : g k < n := h.2.1 k (by omega)
    refine z_firstDealt h.1.1.1 h.1.1.2.2.2.2.1 hr (fun q => ?_) (fun j hj q hmin => ?_)
    · exact absurd (q (g k) hgk) ((hd (g k) hgk).mpr ⟨k, Nat.le_refl k, by omega, rfl⟩)
    · have ej : j = g k := by
        obtain ⟨i, i1, i2, i3⟩ := (hd j hj).mp q
        by_cases z : i = k
        · rw [← i3, z]
        · have a1 := hs k i (by omega) i2
          have a2 := hmin (g k) hgk ((hd (g k) hgk).mpr ⟨k, Nat.le_refl k, by omega, rfl⟩) (fun e => by
            rw [i3, e] at a1
            exact ahd_ir a1)
          rw [i3] at a1
          exact absurd (ahd_tr a1 a2) ahd_ir
      subst ej
      have hin : vp_in (nI (g k)) 60 := vp_in_nI (by omega) (by decide)
      refine hP _ _ ⟨fun q => absurd q (nI_pos (by omega)), fun _ => ⟨hin, fun M1 e1 y ey => ?_⟩⟩
      rw [nI_clamp (by omega), z_nar0] at e1
      subst e1
      rw [show gI (sA R 44 (g k) 0) 24 = nI w from h.1.1.2.2.2.2.2.2.1, nI_1, show (48 : Int32) = nI 48 from rfl, pk_mul] at ey
      subst ey
      have hd' : ∀ R', gA R' 44 = gA (sA R 44 (g k) 0) 44 → ∀ j, j < n → (¬ gA R' 44 j = 0 ↔ ∃ i, k + 1 ≤ i ∧ i < s ∧ g i = j) := fun R' eR j hj => by
        rw [eR]
        show ¬ upd (gA R 44) (g k) 0 j = 0 ↔ _
        by_cases z : j = g k
        · rw [z, pk_us]
          refine ⟨fun q => absurd rfl q, fun ⟨i, i1, i2, i3⟩ => ?_⟩
          have := h.2.2.1 i k i2 (by omega) i3
          omega
        · rw [pk_un z, hd j hj]
          refine ⟨fun ⟨i, i1, i2, i3⟩ => ⟨i, ?_, i2, i3⟩, fun ⟨i, i1, i2, i3⟩ => ⟨i, by omega, i2, i3⟩⟩
          by_cases y : i = k
          · rw [y] at i3; exact absurd i3.symm z
          · omega
      have h0 := h.2.2.2 k (Nat.le_refl k) (by omega)
      refine z_scan (RT_R h.1 (ag_sA ag_rf (by decide))) hgk h0 (fun hN => ?_) (fun t t1 t2 t3 => ?_)
      · have e : lf n w x R (g k) = none := by
          rcases lf_spec n w x R (g k) with ⟨e, -⟩ | ⟨t, e, t1, t2, t3⟩
          · exact e
          · exact absurd t2 (hN t t1)
        rw [dl_n e] at hq
        exact ih (k + 1) c C (sA R 44 (g k) 0) _ (by omega) (DL_n h) hs hr (hd' _ rfl) hq (fun _ _ z => z)
      · have t2' : okS n w x R (g k) t := t2
        have e : lf n w x R (g k) = some t := by
          rcases lf_spec n w x R (g k) with ⟨e, e2⟩ | ⟨t', e, u1, u2, u3⟩
          · exact absurd t2' (e2 t t1)
          · rcases Nat.lt_trichotomy t t' with z | z | z
            · exact absurd t2' (u3 t z)
            · rw [z]; exact e
            · exact absurd u2 (t3 t' z)
        rw [dl_s e] at hq
        refine ih (k + 1) (c + 1) (bk C t (g k)) _ _ (by omega) (DL_s h (by omega) t1 t2') hs hr (hd' _ rfl) ?_ (fun _ _ z => z)
        rw [show c + 1 + (dl n w x g d (k + 1) (bk C t (g k)) (bkM (sA R 44 (g k) 0) t (g k))).2.2 = c + ((dl n w x g d (k + 1) (bk C t (g k)) (bkM (sA R 44 (g k) 0) t (g k))).2.2 + 1) by omega]
        exact hq
