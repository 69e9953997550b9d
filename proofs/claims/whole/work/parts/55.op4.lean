/-! learners that wait again -/
def RC (p : Nat → Bool) (l : Nat) (C C' : Sg) : Prop := ag [] [2, 58, 59] C C' ∧ (∀ j, gA C' 58 j = if j < l ∧ p j = true then 0 else gA C 58 j) ∧ (∀ j, gA C' 59 j = if j < l ∧ p j = true then -1 else gA C 59 j) ∧ (∀ s, s < 2880 → (∃ j, j < l ∧ p j = true ∧ gA C 59 j = nI s) → gA C' 2 s = -1) ∧ ∀ s, s < 2880 → (∀ j, j < l → p j = true → gA C 59 j ≠ nI s) → gA C' 2 s = gA C 2 s
def RM (p : Nat → Bool) (l : Nat) (R R' : Sg) : Prop := ag [] [38, 39] R R' ∧ (∀ j, gA R' 38 j = if j < l ∧ p j = true then 0 else gA R 38 j) ∧ ∀ j, gA R' 39 j = if j < l ∧ p j = true then -1 else gA R 39 j
theorem RC_0 {p : Nat → Bool} {C : Sg} : RC p 0 C C := ⟨ag_rf, fun j => (if_neg (fun q => absurd q.1 (Nat.not_lt_zero j))).symm, fun j => (if_neg (fun q => absurd q.1 (Nat.not_lt_zero j))).symm, fun s _ ⟨j, hj, _⟩ => absurd hj (Nat.not_lt_zero j), fun s _ _ => rfl⟩
theorem RM_0 {p : Nat → Bool} {R : Sg} : RM p 0 R R := ⟨ag_rf, fun j => (if_neg (fun q => absurd q.1 (Nat.not_lt_zero j))).symm, fun j => (if_neg (fun q => absurd q.1 (Nat.not_lt_zero j))).symm⟩
theorem z_ifs {α : Type} {p : Nat → Bool} {l j : Nat} {a b : α} (h : p l = false) : (if j < l + 1 ∧ p j = true then a else b) = if j < l ∧ p j = true then a else b := by
  by_cases e : j = l
  · subst e
    rw [if_neg (fun q => by rw [h] at q; exact absurd q.2 (by decide)), if_neg (fun q => by omega)]
  · by_cases q : j < l ∧ p j = true
    · rw [if_pos q, if_pos ⟨by omega, q.2⟩]
    · rw [if_neg q, if_neg (fun z => q ⟨by omega, z.2⟩)]
theorem z_ift {α : Type} {p : Nat → Bool} {l j : Nat} {a b : α} (h : p l = true) : (if j < l + 1 ∧ p j = true then a else b) = if j = l then a else if j < l ∧ p j = true then a else b := by
  by_cases e : j = l
  · subst e
    rw [if_pos ⟨Nat.lt_succ_self _, h⟩, if_pos rfl]
  · rw [if_neg e]
    by_cases q : j < l ∧ p j = true
    · rw [if_pos q, if_pos ⟨by omega, q.2⟩]
    · rw [if_neg q, if_neg (fun z => q ⟨by omega, z.2⟩)]
theorem RC_skip {p : Nat → Bool} {l : Nat} {C C' : Sg} (h : RC p l C C') (hp : p l = false) : RC p (l + 1) C C' := by
  refine ⟨h.1, fun j => by rw [z_ifs hp]; exact h.2.1 j, fun j => by rw [z_ifs hp]; exact h.2.2.1 j, fun s hs ⟨j, hj, hpj, e⟩ => h.2.2.2.1 s hs ⟨j, ?_, hpj, e⟩, fun s hs q => h.2.2.2.2 s hs (fun j hj hpj => q j (by omega) hpj)⟩
  rcases Nat.lt_or_ge j l with z | z
  · exact z
  · rw [show j = l by omega, hp] at hpj
    exact absurd hpj (by decide)
theorem RM_skip {p : Nat → Bool} {l : Nat} {R R' : Sg} (h : RM p l R R') (hp : p l = false) : RM p (l + 1) R R' := ⟨h.1, fun j => by rw [z_ifs hp]; exact h.2.1 j, fun j => by rw [z_ifs hp]; exact h.2.2 j⟩
def relC (M : Sg) (s j : Nat) : Sg := sA (sA (sA M 2 s (-1)) 59 j (-1)) 58 j 0
def relM (M : Sg) (j : Nat) : Sg := sA (sA M 38 j 0) 39 j (-1)
theorem relC_2 (M : Sg) (s j k : Nat) : gA (relC M s j) 2 k = if k = s then -1 else gA M 2 k := rfl
theorem relC_58 (M : Sg) (s j k : Nat) : gA (relC M s j) 58 k = if k = j then 0 else gA M 58 k := rfl
theorem relC_59 (M : Sg) (s j k : Nat) : gA (relC M s j) 59 k = if k = j then -1 else gA M 59 k := rfl
theorem relM_38 (M : Sg) (j k : Nat) : gA (relM M j) 38 k = if k = j then 0 else gA M 38 k := rfl
theorem relM_39 (M : Sg) (j k : Nat) : gA (relM M j) 39 k = if k = j then -1 else gA M 39 k := rfl
theorem relC_ag (M : Sg) (s j : Nat) : ag [] [2, 58, 59] M (relC M s j) := ag_sA (ag_sA (ag_sA ag_rf (by decide)) (by decide)) (by decide)
theorem relM_ag (M : Sg) (j : Nat) : ag [] [38, 39] M (relM M j) := ag_sA (ag_sA ag_rf (by decide)) (by decide)
theorem RC_rel {p : Nat → Bool} {l s : Nat} {C C' : Sg} (h : RC p l C C') (hp : p l = true) (hs : s < 2880) (he : gA C 59 l = nI s) : RC p (l + 1) C (relC C' s l) := by
  refine ⟨ag_tr h.1 (relC_ag C' s l), fun j => by rw [z_ift hp, relC_58, h.2.1 j], fun j => by rw [z_ift hp, relC_59, h.2.2.1 j], fun s' hs' ⟨j, hj, hpj, e⟩ => ?_, fun s' hs' q => ?_⟩
  · rw [relC_2]
    by_cases z : s' = s
    · rw [if_pos z]
    · rw [if_neg z]
      refine h.2.2.2.1 s' hs' ⟨j, ?_, hpj, e⟩
      rcases Nat.lt_or_ge j l with y | y
      · exact y
      · rw [show j = l by omega, he, nI_eq (by omega) (by omega)] at e
        exact absurd e.symm z
  · rw [relC_2, if_neg (fun z => q l (Nat.lt_succ_self l) hp (by rw [z]; exact he))]
    exact h.2.2.2.2 s' hs' (fun j hj hpj => q j (by omega) hpj)
theorem RM_rel {p : Nat → Bool} {l : Nat} {R R' : Sg} (h : RM p l R R') (hp : p l = true) : RM p (l + 1) R (relM R' l) := ⟨ag_tr h.1 (relM_ag R' l), fun j => by rw [z_ift hp, relM_38, h.2.1 j], fun j => by rw [z_ift hp, relM_39, h.2.2 j]⟩
theorem z_release {n s j : Nat} {M : Sg} {Q : Sg → Prop} (hj : j < n) (hs : s < 2880) (he : gA M 59 j = nI s) (h : Q (relC M s j)) : wX8_release n M j Q := by
  refine ⟨hj, ?_⟩
  rw [he]
  refine z_isSlot hs ⟨fun q => absurd q (by decide), fun _ => ⟨vp_in_nI hs (by decide), fun M3 e3 => ?_⟩⟩
  rw [nI_clamp (by omega)] at e3
  subst e3
  refine ⟨hj, fun M3 e3 => ⟨hj, fun M4 e4 => ?_⟩⟩
  subst e3 e4
  exact h
theorem z_waits {j : Nat} {M : Sg} {Q : Sg → Prop} (hj : j < 60) (h : Q (relM M j)) : wX9_waits M (nI j) Q := by
  have hin : vp_in (nI j) 60 := vp_in_nI hj (by decide)
  have hc : (nI j).toNatClampNeg = j := nI_clamp (by omega)
  unfold wX9_waits
  rw [hc]
  exact ⟨hin, fun M1 e1 => ⟨hin, fun M2 e2 => by subst e1 e2; exact h⟩⟩
/-- those of p wait again on both sides -/
theorem Rel_waits {i n : Nat} {p : Nat → Bool} {C R C' R' : Sg} (h : Rel i n C R) (hp : ∀ j, j < n → p j = true → gA R 38 j = 1) (hC : RC p n C C') (hR : RM p n R R') : Rel i n C' R' := by
  obtain ⟨⟨w, x, h1, h2⟩, h3, h4, ⟨m, h5⟩, h6, h7, h8, h9⟩ := h
  obtain ⟨c1, c2, c3, c4, c5⟩ := hC
  obtain ⟨r1, r2, r3⟩ := hR
  have eI : ∀ k, gI C' k = gI C k := fun k => c1.1 k (by simp)
  have fI : ∀ k, gI R' k = gI R k := fun k => r1.1 k (by simp)
  have eA : ∀ a, a ≠ 2 → a ≠ 58 → a ≠ 59 → gA C' a = gA C a := fun a x y z => c1.2.1 a (by simp [x, y, z])
  have fA : ∀ a, a ≠ 38 → a ≠ 39 → gA R' a = gA R a := fun a x y => r1.2.1 a (by simp [x, y])
  have one : (0 : Int32) ≠ 1 := by decide
  refine ⟨⟨w, x, RelB_R (RelB_C h1 (eI 0) (eI 1) (eI 23) (eA 0 (by decide) (by decide) (by decide)) (eA 1 (by decide) (by decide) (by decide))) (fI 24) (fI 25) (fI 30) (fA 26 (by decide) (by decide)) (fA 27 (by decide) (by decide)) (fA 28 (by decide) (by decide)), fun j hj => ?_⟩, ⟨fun a b ha hb q1 q2 q3 => ?_, fun s hs => ?_⟩, RelP_R (RelP_C h4 (eI 2) (eI 3) (eA 3 (by decide) (by decide) (by decide)) (eA 4 (by decide) (by decide) (by decide))) (fI 42) (fA 28 (by decide) (by decide)) (fA 29 (by decide) (by decide)), ⟨m, RelS_R (RelS_C h5 (eI 5) (fun a q => eA a (by omega) (by omega) (by omega))) (fI 45) (fA 46 (by decide) (by decide)) (fA 47 (by decide) (by decide)) (fA 48 (by decide) (by decide)) (fA 49 (by decide) (by decide)) (fA 50 (by decide) (by decide)) (fA 51 (by decide) (by decide))⟩, RelD_R (RelD_C h6 (eI 6) (eA 26 (by decide) (by decide) (by decide))) (fI 55) (fA 54 (by decide) (by decide)), RelF_R (RelF_C h7 (eI 14) (eA 8 (by decide) (by decide) (by decide))) (fI 2) (fA 1 (by decide) (by decide)), RelX_R (RelX_C h8 (eI 15) (eA 9 (by decide) (by decide) (by decide)) (eA 10 (by decide) (by decide) (by decide)) (eA 11 (by decide) (by decide) (by decide))) (fI 15) (fA 10 (by decide) (by decide)) (fA 11 (by decide) (by decide)) (fA 12 (by decide) (by decide)) (fA 13 (by decide) (by decide)) (fA 14 (by decide) (by decide)), r1.2.2.trans h9.1, fun j hj => by rw [fA 40 (by decide) (by decide), fA 41 (by decide) (by decide)]; exact h9.2 j hj⟩
  · obtain ⟨g1, g2, g3, g4, g5, g6, g7, g8, g9, g10, g11, g12, g13, g14, g15, g16, g17, g18, g19⟩ := h2 j hj
    have k (a : Nat) (h1 : a ≠ 2) (h2 : a ≠ 58) (h3 : a ≠ 59) : gA C' a j = gA C a j := by rw [eA a h1 h2 h3]
    have q (a : Nat) (h1 : a ≠ 38) (h2 : a ≠ 39) : gA R' a j = gA R a j := by rw [fA a h1 h2]
    refine ⟨by rw [k 50 (by decide) (by decide) (by decide)]; exact g1, by rw [k 51 (by decide) (by decide) (by decide), q 37 (by decide) (by decide)]; exact g2, by rw [k 52 (by decide) (by decide) (by decide), q 31 (by decide) (by decide)]; exact g3, by rw [k 53 (by decide) (by decide) (by decide), q 32 (by decide) (by decide)]; exact g4, by rw [k 54 (by decide) (by decide) (by decide), q 33 (by decide) (by decide)]; exact g5, by rw [k 55 (by decide) (by decide) (by decide), q 34 (by decide) (by decide)]; exact g6, by rw [k 56 (by decide) (by decide) (by decide), q 35 (by decide) (by decide)]; exact g7, by rw [k 57 (by decide) (by decide) (by decide), q 36 (by decide) (by decide)]; exact g8, by rw [c2 j, r2 j, g9], by rw [c3 j, r3 j, g10], by rw [k 60 (by decide) (by decide) (by decide), q 40 (by decide) (by decide)]; exact g11, by rw [k 61 (by decide) (by decide) (by decide), q 41 (by decide) (by decide)]; exact g12, by rw [q 31 (by decide) (by decide)]; exact g13, by rw [q 33 (by decide) (by decide)]; exact g14, by rw [q 34 (by decide) (by decide)]; exact g15, by rw [q 35 (by decide) (by decide)]; exact g16, ?_, ?_, ?_⟩
    · rw [r2 j]
      by_cases z : j < n ∧ p j = true
      · rw [if_pos z]; exact ⟨0, by omega, rfl⟩
      · rw [if_neg z]; exact g17
    · rw [r2 j, r3 j]
      by_cases z : j < n ∧ p j = true
      · rw [if_pos z]; exact fun y => absurd y one
      · rw [if_neg z, if_neg z]; exact g18
    · rw [r2 j, r3 j]
      by_cases z : j < n ∧ p j = true
      · rw [if_pos z, if_pos z]; exact fun _ => rfl
      · rw [if_neg z, if_neg z]; exact g19
  · rw [r2 a] at q1
    rw [r2 b] at q2
    rw [r3 a, r3 b] at q3
    by_cases za : a < n ∧ p a = true
    · rw [if_pos za] at q1; exact absurd q1 one
    · by_cases zb : b < n ∧ p b = true
      · rw [if_pos zb] at q2; exact absurd q2 one
      · rw [if_neg za] at q1 q3
        rw [if_neg zb] at q2 q3
        exact h3.1 a b ha hb q1 q2 q3
  · rcases h3.2 s hs with ⟨e, g⟩ | ⟨j, j1, j2, j3, j4⟩
    · refine Or.inl ⟨?_, fun j hj q1 q2 => ?_⟩
      · rw [c5 s hs (fun j hj hpj e2 => g j hj (hp j hj hpj) (by rw [← (h2 j hj).2.2.2.2.2.2.2.2.2.1]; exact e2))]
        exact e
      · rw [r2 j] at q1
        rw [r3 j] at q2
        by_cases z : j < n ∧ p j = true
        · rw [if_pos z] at q1; exact absurd q1 one
        · rw [if_neg z] at q1 q2; exact g j hj q1 q2
    · by_cases z : p j = true
      · refine Or.inl ⟨c4 s hs ⟨j, j1, z, by rw [(h2 j j1).2.2.2.2.2.2.2.2.2.1]; exact j3⟩, fun k hk q1 q2 => ?_⟩
        rw [r2 k] at q1
        rw [r3 k] at q2
        by_cases y : k < n ∧ p k = true
        · rw [if_pos y] at q1; exact absurd q1 one
        · rw [if_neg y] at q1 q2
          have := h3.1 k j hk j1 q1 j2 (by rw [q2, j3])
          subst this
          exact y ⟨hk, z⟩
      · refine Or.inr ⟨j, j1, by rw [r2 j, if_neg (fun y => z y.2)]; exact j2, by rw [r3 j, if_neg (fun y => z y.2)]; exact j3, ?_⟩
        rw [c5 s hs (fun k hk hpk e2 => ?_)]
        · exact j4
        · have e3 : gA R 39 k = nI s := by rw [← (h2 k hk).2.2.2.2.2.2.2.2.2.1]; exact e2
          have := h3.1 k j hk j1 (hp k hk hpk) j2 (by rw [e3, j3])
          subst this
          exact z hpk
