/-! the line of learners -/
def ahd (r : Nat → Int32) (a b : Nat) : Prop := r b < r a ∨ (r a = r b ∧ a < b)
def ins (g : Nat → Nat) (q j : Nat) : Nat → Nat := fun i => if i < q then g i else if i = q then j else g (i - 1)
def srt (r : Nat → Int32) (s : Nat) (g : Nat → Nat) : Prop := ∀ i k, i < k → k < s → ahd r (g i) (g k)
def LnR (M : Sg) (r : Nat → Int32) (s : Nat) (g : Nat → Nat) : Prop := s ≤ 60 ∧ gI M 4 = nI s ∧ ∀ i, i < s → gA M 5 i = nI (g i) ∧ gA M 6 i = r (g i)
theorem i_lt_trans {a b c : Int32} (h : a < b) (g : b < c) : a < c := Int32.lt_trans h g
theorem ahd_tr {r : Nat → Int32} {a b c : Nat} (h : ahd r a b) (g : ahd r b c) : ahd r a c := by
  rcases h with h | ⟨h1, h2⟩ <;> rcases g with g | ⟨g1, g2⟩
  · exact Or.inl (Int32.lt_trans g h)
  · exact Or.inl (by rw [← g1]; exact h)
  · exact Or.inl (by rw [h1]; exact g)
  · exact Or.inr ⟨h1.trans g1, by omega⟩
theorem ahd_ir {r : Nat → Int32} {a : Nat} : ¬ ahd r a a := fun h => h.elim (fun q => Int32.lt_irrefl q) (fun q => Nat.lt_irrefl _ q.2)
theorem ahd_tot {r : Nat → Int32} {a b : Nat} (h : a ≠ b) : ahd r a b ∨ ahd r b a := by
  by_cases c1 : r b < r a
  · exact Or.inl (Or.inl c1)
  · by_cases c2 : r a < r b
    · exact Or.inr (Or.inl c2)
    · have e : r a = r b := Int32.le_antisymm (Int32.not_lt.mp c1) (Int32.not_lt.mp c2)
      rcases Nat.lt_or_gt_of_ne h with q | q
      · exact Or.inl (Or.inr ⟨e, q⟩)
      · exact Or.inr (Or.inr ⟨e.symm, q⟩)
theorem srt_inj {r : Nat → Int32} {s : Nat} {g : Nat → Nat} (h : srt r s g) {i k : Nat} (hi : i < s) (hk : k < s) (e : g i = g k) : i = k := by
  rcases Nat.lt_trichotomy i k with q | q | q
  · exact absurd (h i k q hk) (by rw [e]; exact ahd_ir)
  · exact q
  · exact absurd (h k i q hi) (by rw [e]; exact ahd_ir)
theorem srt_ins {r : Nat → Int32} {s q j : Nat} {g : Nat → Nat} (h : srt r s g) (hq : q ≤ s) (hj : ∀ i, i < s → g i < j) (h1 : ∀ i, q ≤ i → i < s → r (g i) < r j) (h2 : ∀ i, i < q → ¬ r (g i) < r j) : srt r (s + 1) (ins g q j) := by
  intro i k hik hk
  have up : ∀ i, i < q → ahd r (g i) j := fun i hi => by
    by_cases c : r j < r (g i)
    · exact Or.inl c
    · exact Or.inr ⟨(Int32.le_antisymm (Int32.not_lt.mp (h2 i hi)) (Int32.not_lt.mp c)).symm, hj i (by omega)⟩
  unfold ins
  by_cases c1 : i < q
  · rw [if_pos c1]
    by_cases c2 : k < q
    · rw [if_pos c2]; exact h i k hik (by omega)
    · rw [if_neg c2]
      by_cases c3 : k = q
      · rw [if_pos c3]; exact up i c1
      · rw [if_neg c3]; exact h i (k - 1) (by omega) (by omega)
  · rw [if_neg c1]
    by_cases c4 : i = q
    · rw [if_pos c4, if_neg (by omega), if_neg (by omega)]
      exact Or.inl (h1 (k - 1) (by omega) (by omega))
    · rw [if_neg c4, if_neg (by omega), if_neg (by omega)]
      exact h (i - 1) (k - 1) (by omega) (by omega)
theorem z_add {n s j : Nat} {r : Nat → Int32} {g : Nat → Nat} {M : Sg} {Q : Sg → Prop} (hs : s < 60) (hL : LnR M r s g) (hS : srt r s g) (hj : ∀ i, i < s → g i < j) (hq : ∀ q M', q ≤ s → ag [4] [5, 6] M M' → LnR M' r (s + 1) (ins g q j) → srt r (s + 1) (ins g q j) → Q M') : wX2_add n M (nI j) (r j) Q := by
  obtain ⟨l1, l2, l3⟩ := hL
  have loop : ∀ (q : Nat) (M' : Sg), q ≤ s → ag [4] [5, 6] M M' → gI M' 4 = nI s → (∀ i, i < q → gA M' 5 i = nI (g i) ∧ gA M' 6 i = r (g i)) → (∀ i, q < i → i ≤ s → gA M' 5 i = nI (g (i - 1)) ∧ gA M' 6 i = r (g (i - 1))) → (∀ i, q ≤ i → i < s → r (g i) < r j) → vX2_add_15 n Q (q + 1) M' (nI j) (r j) (nI q) := by
    intro q
    induction q with
    | zero =>
      intro M' hqs ha h4 k1 k2 k3
      refine ⟨fun _ => ?_, fun c => absurd (by decide) c⟩
      refine ⟨vp_in_nI (by omega) (by decide), fun M1 e1 => ⟨vp_in_nI (by omega) (by decide), fun M2 e2 M3 e3 => ?_⟩⟩
      rw [nI_clamp (by omega)] at e1 e2
      subst e1 e2 e3
      refine hq 0 _ (Nat.zero_le s) (ag_sI (ag_sA (ag_sA ha (by decide)) (by decide)) (by decide)) ⟨by omega, ?_, fun i hi => ?_⟩ (srt_ins hS (Nat.zero_le s) hj k3 (fun i hi => absurd hi (Nat.not_lt_zero i)))
      · show gI M' 4 + 1 = _
        rw [h4, nI_1]
      · show upd (gA M' 5) 0 _ i = _ ∧ upd (gA M' 6) 0 _ i = _
        unfold ins
        rw [if_neg (Nat.not_lt_zero i)]
        by_cases c : i = 0
        · subst c; rw [pk_us, pk_us, if_pos rfl]; exact ⟨rfl, rfl⟩
        · rw [pk_un c, pk_un c, if_neg c]; exact k2 i (by omega) (by omega)
    | succ q ih =>
      intro M' hqs ha h4 k1 k2 k3
      have hin : vp_in (nI q) 60 := vp_in_nI (by omega) (by decide)
      have hin1 : vp_in (nI (q + 1)) 60 := vp_in_nI (by omega) (by decide)
      have hcl : (nI q).toNatClampNeg = q := nI_clamp (by omega)
      refine ⟨fun c => absurd c (nI_nle (by omega) (by omega)), fun _ => ?_⟩
      rw [nI_pred, hcl, (k1 q (Nat.lt_succ_self q)).2, (k1 q (Nat.lt_succ_self q)).1]
      refine ⟨hin, fun c => ⟨hin1, fun M1 e1 => ⟨hin1, fun M2 e2 M3 e3 => ?_⟩⟩, fun c => ⟨hin, hin1, fun M1 e1 => ⟨hin, hin1, fun M2 e2 y ey => ?_⟩⟩⟩
      · rw [nI_clamp (by omega)] at e1 e2
        subst e1 e2 e3
        refine hq (q + 1) _ hqs (ag_sI (ag_sA (ag_sA ha (by decide)) (by decide)) (by decide)) ⟨by omega, ?_, fun i hi => ?_⟩ (srt_ins hS hqs hj k3 (fun i hi => ?_))
        · show gI M' 4 + 1 = _
          rw [h4, nI_1]
        · show upd (gA M' 5) (q + 1) _ i = _ ∧ upd (gA M' 6) (q + 1) _ i = _
          unfold ins
          by_cases c1 : i = q + 1
          · rw [c1, pk_us, pk_us, if_neg (Nat.lt_irrefl _), if_pos rfl]; exact ⟨rfl, rfl⟩
          · rw [pk_un c1, pk_un c1]
            by_cases c2 : i < q + 1
            · rw [if_pos c2]; exact k1 i c2
            · rw [if_neg c2, if_neg c1]; exact k2 i (by omega) (by omega)
        · intro z
          by_cases e : i = q
          · subst e; exact absurd z (Int32.not_lt.mpr c)
          · rcases hS i q (by omega) (by omega) with w | ⟨w, -⟩
            · exact absurd (Int32.lt_trans w z) (Int32.not_lt.mpr c)
            · rw [w] at z; exact absurd z (Int32.not_lt.mpr c)
      · rw [nI_clamp (by omega)] at e1 e2
        rw [pk_m1] at ey
        have e6 : gA M1 6 q = r (g q) := by rw [e1]; exact (k1 q (Nat.lt_succ_self q)).2
        rw [e6] at e2
        subst e1 e2 ey
        refine ih _ (by omega) (ag_sA (ag_sA ha (by decide)) (by decide)) h4 (fun i hi => ?_) (fun i h1 h2 => ?_) (fun i h1 h2 => ?_)
        · show upd (gA M' 5) (q + 1) _ i = _ ∧ upd (gA M' 6) (q + 1) _ i = _
          rw [pk_un (by omega), pk_un (by omega)]
          exact k1 i (by omega)
        · show upd (gA M' 5) (q + 1) _ i = _ ∧ upd (gA M' 6) (q + 1) _ i = _
          by_cases c1 : i = q + 1
          · subst c1; rw [pk_us, pk_us]; exact ⟨rfl, rfl⟩
          · rw [pk_un c1, pk_un c1]; exact k2 i (by omega) h2
        · by_cases e : i = q
          · subst e; exact Int32.not_le.mp c
          · exact k3 i (by omega) h2
  refine ⟨fun _ y ey => ⟨s + 1, ?_⟩, fun c => absurd (by rw [l2]; exact nI_lt hs (by decide)) c⟩
  rw [l2] at ey
  subst ey
  exact loop s M (Nat.le_refl s) ag_rf l2 l3 (fun i h1 h2 => absurd h1 (by omega)) (fun i h1 h2 => absurd h1 (by omega))
/-- those of p below l stand in line -/
def LU (r : Nat → Int32) (p : Nat → Prop) (l : Nat) (M : Sg) (s : Nat) (g : Nat → Nat) : Prop := LnR M r s g ∧ srt r s g ∧ (∀ i, i < s → g i < l ∧ p (g i)) ∧ (∀ j, j < l → p j → ∃ i, i < s ∧ g i = j) ∧ s ≤ l
theorem LU_0 {r : Nat → Int32} {p : Nat → Prop} {M : Sg} (h : gI M 4 = 0) : LU r p 0 M 0 (fun _ => 0) := ⟨⟨by omega, h, fun i hi => absurd hi (Nat.not_lt_zero i)⟩, fun i k _ hk => absurd hk (Nat.not_lt_zero k), fun i hi => absurd hi (Nat.not_lt_zero i), fun j hj => absurd hj (Nat.not_lt_zero j), Nat.le_refl 0⟩
theorem LU_skip {r : Nat → Int32} {p : Nat → Prop} {l s : Nat} {M : Sg} {g : Nat → Nat} (h : LU r p l M s g) (hp : ¬ p l) : LU r p (l + 1) M s g := by
  obtain ⟨h1, h2, h3, h4, h5⟩ := h
  refine ⟨h1, h2, fun i hi => ⟨by have := (h3 i hi).1; omega, (h3 i hi).2⟩, fun j hj q => h4 j ?_ q, by omega⟩
  rcases Nat.lt_or_ge j l with z | z
  · exact z
  · rw [show j = l by omega] at q; exact absurd q hp
theorem LU_ag {r : Nat → Int32} {p : Nat → Prop} {l s : Nat} {M M' : Sg} {g : Nat → Nat} (h : LU r p l M s g) (h4 : gI M' 4 = gI M 4) (h5 : gA M' 5 = gA M 5) (h6 : gA M' 6 = gA M 6) : LU r p l M' s g := by
  obtain ⟨⟨a1, a2, a3⟩, h2⟩ := h
  exact ⟨⟨a1, h4.trans a2, by rw [h5, h6]; exact a3⟩, h2⟩
theorem LU_ins {r : Nat → Int32} {p : Nat → Prop} {l s q : Nat} {M M' : Sg} {g : Nat → Nat} (h : LU r p l M s g) (hp : p l) (hq : q ≤ s) (h1 : LnR M' r (s + 1) (ins g q l)) (h2 : srt r (s + 1) (ins g q l)) : LU r p (l + 1) M' (s + 1) (ins g q l) := by
  obtain ⟨-, -, h3, h4, h5⟩ := h
  refine ⟨h1, h2, fun i hi => ?_, fun j hj pj => ?_, by omega⟩
  · unfold ins
    by_cases c1 : i < q
    · rw [if_pos c1]; have := h3 i (by omega); exact ⟨by omega, this.2⟩
    · rw [if_neg c1]
      by_cases c2 : i = q
      · rw [if_pos c2]; exact ⟨by omega, hp⟩
      · rw [if_neg c2]; have := h3 (i - 1) (by omega); exact ⟨by omega, this.2⟩
  · by_cases e : j = l
    · refine ⟨q, by omega, ?_⟩
      unfold ins
      rw [if_neg (Nat.lt_irrefl q), if_pos rfl, e]
    · obtain ⟨i, i1, i2⟩ := h4 j (by omega) pj
      by_cases c : i < q
      · refine ⟨i, by omega, ?_⟩
        unfold ins
        rw [if_pos c, i2]
      · refine ⟨i + 1, by omega, ?_⟩
        unfold ins
        rw [if_neg (by omega), if_neg (by omega), show i + 1 - 1 = i from rfl, i2]
theorem z_rankadd {n l s : Nat} {r : Nat → Int32} {p : Nat → Prop} {g : Nat → Nat} {M R : Sg} {Q : Sg → Prop} (hX : RelX M R) (hn : n ≤ 60) (hl : l < n) (hr : rk M l = r l) (h : LU r p l M s g) (hp : p l) (hq : ∀ M3 g', ag [4] [5, 6, 7, 12] M M3 → LU r p (l + 1) M3 (s + 1) g' → Q M3) : wX8_rankOf n M l (fun M1 r2 => wX2_add n M1 (nI l) r2 Q) := by
  refine z_rankOfC hX hl (fun M1 a1 => ?_)
  rw [hr]
  have h' : LU r p l M1 s g := LU_ag h (a1.1 4 (by simp)) (a1.2.1 5 (by decide)) (a1.2.1 6 (by decide))
  refine z_add (by have := h.2.2.2.2; omega) h'.1 h'.2.1 (fun i hi => (h'.2.2.1 i hi).1) (fun q M' hq' a2 b1 b2 => ?_)
  exact hq M' (ins g q l) (ag_tr (ag_mono a1 (by simp) (by simp)) (ag_mono a2 (by simp) (by simp))) (LU_ins h' hp hq' b1 b2)
theorem RelX_ag {C C' R : Sg} {I A : List Nat} (h : RelX C R) (a : ag I A C C') (h15 : 15 ∉ I) (h9 : 9 ∉ A) (h10 : 10 ∉ A) (h11 : 11 ∉ A) : RelX C' R := RelX_C h (a.1 15 h15) (a.2.1 9 h9) (a.2.1 10 h10) (a.2.1 11 h11)
theorem z_lineUpWaiting {n : Nat} {C R : Sg} {Q : Sg → Prop} (hn : n ≤ 60) (hc : gI C 23 = nI n) (hX : RelX C R) (hq : ∀ M s g, ag [4] [5, 6, 7, 12] C M → LU (rk C) (fun j => gA C 58 j = 0) n M s g → Q M) : wX8_lineUpWaiting n C Q := by
  intro M0 e0
  have loop : ∀ (k l : Nat) (M : Sg) (s : Nat) (g : Nat → Nat), l + k = n → ag [4] [5, 6, 7, 12] C M → LU (rk C) (fun j => gA C 58 j = 0) l M s g → vX8_lineUpWaiting_9 n Q (k + 1) M (nI l) := by
    intro k
    induction k with
    | zero =>
      intro l M s g hl a h
      have el : l = n := by omega
      subst el
      exact ⟨fun _ => hq M s g a h, fun c => absurd (by rw [a.1 23 (by decide), hc]; exact Int32.le_refl _) c⟩
    | succ k ih =>
      intro l M s g hl a h
      have hin : vp_in (nI l) 60 := vp_in_nI (by omega) (by decide)
      have hcl : (nI l).toNatClampNeg = l := nI_clamp (by omega)
      have hw : vp_in (nI l) 60 ∧ (nI l).toNatClampNeg < n := ⟨hin, by rw [hcl]; omega⟩
      refine ⟨fun c => absurd c (by rw [a.1 23 (by decide), hc]; exact nI_ge (by omega) (by omega)), fun _ => ⟨hw, by rw [hcl]; omega, ?_⟩⟩
      rw [hcl, a.2.1 58 (by decide)]
      refine ⟨fun c => ?_, fun c => ⟨⟨hin, by omega⟩, ?_⟩⟩
      · intro y ey
        rw [ey, nI_1]
        exact ih (l + 1) M s g (by omega) a (LU_skip h c)
      · refine z_rankadd (RelX_ag hX a (by decide) (by decide) (by decide) (by decide)) hn (by omega) (rk_ag a (by decide) (by decide) (by decide) l) h c (fun M3 g' a3 h3 => ?_)
        intro y ey
        rw [ey, nI_1]
        exact ih (l + 1) M3 (s + 1) g' (by omega) (ag_tr a a3) h3
  exact ⟨n + 1, loop n 0 M0 0 (fun _ => 0) (by omega) (by rw [e0]; exact ag_sI ag_rf (by decide)) (LU_0 (by rw [e0]; rfl))⟩
theorem z_lineUpSooner {n : Nat} {C R : Sg} {Q : Sg → Prop} (hn : n ≤ 60) (hc : gI C 23 = nI n) (hX : RelX C R) (hq : ∀ M s g, ag [4] [5, 6, 7, 12] C M → LU (rk C) (fun j => gA C 58 j = 1 ∧ ¬ gA C 57 j = 0) n M s g → Q M) : wX8_lineUpSooner n C Q := by
  intro M0 e0
  have loop : ∀ (k l : Nat) (M : Sg) (s : Nat) (g : Nat → Nat), l + k = n → ag [4] [5, 6, 7, 12] C M → LU (rk C) (fun j => gA C 58 j = 1 ∧ ¬ gA C 57 j = 0) l M s g → vX8_lineUpSooner_9 n Q (k + 1) M (nI l) := by
    intro k
    induction k with
    | zero =>
      intro l M s g hl a h
      have el : l = n := by omega
      subst el
      exact ⟨fun _ => hq M s g a h, fun c => absurd (by rw [a.1 23 (by decide), hc]; exact Int32.le_refl _) c⟩
    | succ k ih =>
      intro l M s g hl a h
      have hin : vp_in (nI l) 60 := vp_in_nI (by omega) (by decide)
      have hcl : (nI l).toNatClampNeg = l := nI_clamp (by omega)
      have hw : vp_in (nI l) 60 ∧ (nI l).toNatClampNeg < n := ⟨hin, by rw [hcl]; omega⟩
      refine ⟨fun c => absurd c (by rw [a.1 23 (by decide), hc]; exact nI_ge (by omega) (by omega)), fun _ => ⟨hw, by rw [hcl]; omega, ?_⟩⟩
      rw [hcl, a.2.1 58 (by decide), a.2.1 57 (by decide)]
      refine ⟨fun c => ?_, fun c => ⟨⟨hin, by omega⟩, by omega, fun c2 => ?_, fun c2 => ⟨⟨hin, by omega⟩, ?_⟩⟩⟩
      · intro y ey
        rw [ey, nI_1]
        exact ih (l + 1) M s g (by omega) a (LU_skip h (fun z => c z.1))
      · intro y ey
        rw [ey, nI_1]
        exact ih (l + 1) M s g (by omega) a (LU_skip h (fun z => z.2 c2))
      · refine z_rankadd (RelX_ag hX a (by decide) (by decide) (by decide) (by decide)) hn (by omega) (rk_ag a (by decide) (by decide) (by decide) l) h ⟨c, c2⟩ (fun M3 g' a3 h3 => ?_)
        intro y ey
        rw [ey, nI_1]
        exact ih (l + 1) M3 (s + 1) g' (by omega) (ag_tr a a3) h3
  exact ⟨n + 1, loop n 0 M0 0 (fun _ => 0) (by omega) (by rw [e0]; exact ag_sI ag_rf (by decide)) (LU_0 (by rw [e0]; rfl))⟩
/-! ranks on the reference's side -/
theorem z_findRanks {n w x : Nat} {C R : Sg} {Q : Sg → Prop} (hB : RelB n w x C R) (hL : RelL n x C R) (hX : RelX C R) (hq : ∀ M, ag [] [22, 23, 43] R M → (∀ j, j < n → gA M 43 j = rk C j) → Q M) : wX9_findRanks R Q := by
  have hn : n ≤ 60 := hB.1
  have hc : gI R 30 = nI n := hB.2.2.2.2.1
  have loop : ∀ (k l : Nat) (M : Sg), l + k = n → ag [] [22, 23, 43] R M → (∀ j, j < l → gA M 43 j = rk C j) → vX9_findRanks_2 Q (k + 1) M (nI l) := by
    intro k
    induction k with
    | zero =>
      intro l M hl a h
      have el : l = n := by omega
      subst el
      exact ⟨fun _ => hq M a h, fun c => absurd (by rw [a.1 30 (by simp), hc]; exact Int32.le_refl _) c⟩
    | succ k ih =>
      intro l M hl a h
      have hin : vp_in (nI l) 60 := vp_in_nI (by omega) (by decide)
      have hcl : (nI l).toNatClampNeg = l := nI_clamp (by omega)
      refine ⟨fun c => absurd c (by rw [a.1 30 (by simp), hc]; exact nI_ge (by omega) (by omega)), fun _ => ?_⟩
      have hB' : RelB n w x C M := RelB_R hB (a.1 24 (by simp)) (a.1 25 (by simp)) (a.1 30 (by simp)) (a.2.1 26 (by decide)) (a.2.1 27 (by decide)) (a.2.1 28 (by decide))
      have hL' : RelL n x C M := RelL_R hL (a.2.1 31 (by decide)) (a.2.1 32 (by decide)) (a.2.1 33 (by decide)) (a.2.1 34 (by decide)) (a.2.1 35 (by decide)) (a.2.1 36 (by decide)) (a.2.1 37 (by decide)) (a.2.1 38 (by decide)) (a.2.1 39 (by decide)) (a.2.1 40 (by decide)) (a.2.1 41 (by decide))
      have hX' : RelX C M := RelX_R hX (a.1 15 (by simp)) (a.2.1 10 (by decide)) (a.2.1 11 (by decide)) (a.2.1 12 (by decide)) (a.2.1 13 (by decide)) (a.2.1 14 (by decide))
      refine z_rankOfM hB' (hL' l (by omega)) hX' (by omega) (fun M1 a1 => ⟨hin, fun M2 e2 y ey => ?_⟩)
      rw [hcl] at e2
      subst e2
      rw [ey, nI_1]
      refine ih (l + 1) _ (by omega) (ag_sA (ag_tr a (ag_mono a1 (by simp) (by simp))) (by decide)) (fun j hj => ?_)
      show upd (gA M1 43) l _ j = _
      by_cases e : j = l
      · subst e; rw [pk_us]
      · rw [pk_un e, a1.2.1 43 (by decide)]; exact h j (by omega)
  exact ⟨n + 1, loop n 0 R (by omega) ag_rf (fun j hj => absurd hj (Nat.not_lt_zero j))⟩
theorem z_isAhead {r : Nat → Int32} {a b : Nat} {M : Sg} {Q : Sg → Int32 → Prop} (ha : a < 60) (hb : b < 60) (ra : gA M 43 a = r a) (rb : gA M 43 b = r b) (h1 : ahd r a b → Q M 1) (h0 : ¬ ahd r a b → Q M 0) : wX9_isAhead M (nI a) (nI b) Q := by
  have hia : vp_in (nI a) 60 := vp_in_nI ha (by decide)
  have hib : vp_in (nI b) 60 := vp_in_nI hb (by decide)
  unfold wX9_isAhead
  rw [nI_clamp (by omega), nI_clamp (by omega), ra, rb]
  refine ⟨hia, hib, fun c => h1 (Or.inl c), fun c => ⟨hia, hib, fun c2 => h0 (fun z => z.elim c (fun z => c2 z.1)), fun c2 => ⟨fun c3 => h0 (fun z => z.elim c (fun z => ?_)), fun c3 => h1 (Or.inr ⟨c2, ?_⟩)⟩⟩⟩
  · rw [nI_leI (by omega) (by omega)] at c3
    omega
  · rw [nI_leI (by omega) (by omega)] at c3
    omega
