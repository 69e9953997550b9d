/-! held, learner -/
theorem z_find {n : Nat} {M : Sg} {a : Int32} {Q : Sg → Option Nat → Prop} (hn : n ≤ 60) (hc : gI M 23 = nI n) (h0 : a < 0 ∨ nI n ≤ a → Q M none) (h1 : ∀ j, j < n → a = nI j → Q M (some j)) : wX8_find n M a Q := by
  unfold wX8_find
  rw [hc]
  refine z_withinN (by omega) (fun c => ⟨fun _ => h0 c, fun q => absurd rfl q⟩) (fun j hj e => ⟨fun q => absurd q (by decide), fun _ => ?_⟩)
  subst e
  rw [nI_clamp (by omega)]
  exact ⟨⟨vp_in_nI (by omega) (by decide), hj⟩, h1 j hj rfl⟩
theorem z_isLearner {n : Nat} {M : Sg} {a : Int32} {Q : Sg → Int32 → Prop} (hn : n ≤ 60) (hc : gI M 30 = nI n) (h0 : a < 0 ∨ nI n ≤ a → Q M 0) (h1 : ∀ j, j < n → a = nI j → Q M 1) : wX9_isLearner M a Q := by
  refine ⟨fun c => h0 (Or.inl c), fun c => ⟨fun g => h0 (Or.inr (by rw [hc] at g; exact g)), fun g => ?_⟩⟩
  rcases z_ix a (k := n) (by omega) with (q | q) | ⟨j, hj, e⟩
  · exact absurd q c
  · exact absurd (by rw [hc]; exact q) g
  · exact h1 j hj e
/-- only rows of learners, the bookings and what is no part of the relation have changed -/
theorem Rel_upd {i n : Nat} {C R C' R' : Sg} (h : Rel i n C R) (hC : ag [4] [2, 5, 6, 7, 12, 16, 50, 51, 52, 53, 54, 55, 56, 57, 58, 59, 60, 61] C C') (hR : ag [0] [22, 23, 31, 32, 33, 34, 35, 36, 37, 38, 39, 40, 41, 43, 44] R R') (hL : ∀ x, RelL n x C R → RelL n x C' R') (hK : RelK n C' R') (hz : ∀ j, n ≤ j → gA R' 40 j = gA R 40 j ∧ gA R' 41 j = gA R 41 j) : Rel i n C' R' := by
  obtain ⟨⟨w, x, h1, h2⟩, h3, h4, ⟨m, h5⟩, h6, h7, h8, h9⟩ := h
  obtain ⟨e, f, -⟩ := hC
  obtain ⟨e', f', g'⟩ := hR
  refine ⟨⟨w, x, RelB_R (RelB_C h1 (e 0 (by decide)) (e 1 (by decide)) (e 23 (by decide)) (f 0 (by decide)) (f 1 (by decide))) (e' 24 (by decide)) (e' 25 (by decide)) (e' 30 (by decide)) (f' 26 (by decide)) (f' 27 (by decide)) (f' 28 (by decide)), hL x h2⟩, hK, RelP_R (RelP_C h4 (e 2 (by decide)) (e 3 (by decide)) (f 3 (by decide)) (f 4 (by decide))) (e' 42 (by decide)) (f' 28 (by decide)) (f' 29 (by decide)), ⟨m, RelS_R (RelS_C h5 (e 5 (by decide)) (fun a q => f a (by simp; omega))) (e' 45 (by decide)) (f' 46 (by decide)) (f' 47 (by decide)) (f' 48 (by decide)) (f' 49 (by decide)) (f' 50 (by decide)) (f' 51 (by decide))⟩, RelD_R (RelD_C h6 (e 6 (by decide)) (f 26 (by decide))) (e' 55 (by decide)) (f' 54 (by decide)), RelF_R (RelF_C h7 (e 14 (by decide)) (f 8 (by decide))) (e' 2 (by decide)) (f' 1 (by decide)), RelX_R (RelX_C h8 (e 15 (by decide)) (f 9 (by decide)) (f 10 (by decide)) (f 11 (by decide))) (e' 15 (by decide)) (f' 10 (by decide)) (f' 11 (by decide)) (f' 12 (by decide)) (f' 13 (by decide)) (f' 14 (by decide)), g'.trans h9.1, fun j hj => ?_⟩
  rw [(hz j hj).1, (hz j hj).2]
  exact h9.2 j hj
def p1 (k j : Nat) : Bool := decide (j = k)
theorem p1_t {k j : Nat} : p1 k j = true ↔ j = k := decide_eq_true_iff
theorem Rel_rel1 {i n j s : Nat} {C R : Sg} (h : Rel i n C R) (hj : j < n) (hb : gA R 38 j = 1) (hs : s < 2880) (he : gA R 39 j = nI s) : Rel i n (relC C s j) (relM R j) := by
  obtain ⟨⟨w, x, h1, h2⟩, -⟩ := id h
  have e2 : gA C 59 j = nI s := (h2 j hj).2.2.2.2.2.2.2.2.2.1.trans he
  refine Rel_waits (p := p1 j) h (fun k _ hp => by rw [p1_t.mp hp]; exact hb) ⟨relC_ag C s j, fun k => ?_, fun k => ?_, fun s' _ ⟨k, _, hk, q⟩ => ?_, fun s' _ q => ?_⟩ ⟨relM_ag R j, fun k => ?_, fun k => ?_⟩
  · rw [relC_58]
    by_cases z : k = j
    · rw [if_pos z, if_pos ⟨by omega, p1_t.mpr z⟩]
    · rw [if_neg z, if_neg (fun y => z (p1_t.mp y.2))]
  · rw [relC_59]
    by_cases z : k = j
    · rw [if_pos z, if_pos ⟨by omega, p1_t.mpr z⟩]
    · rw [if_neg z, if_neg (fun y => z (p1_t.mp y.2))]
  · rw [p1_t.mp hk, e2, nI_eq (by omega) (by omega)] at q
    rw [relC_2, if_pos q.symm]
  · rw [relC_2, if_neg (fun z => q j hj (p1_t.mpr rfl) (by rw [z]; exact e2))]
  · rw [relM_38]
    by_cases z : k = j
    · rw [if_pos z, if_pos ⟨by omega, p1_t.mpr z⟩]
    · rw [if_neg z, if_neg (fun y => z (p1_t.mp y.2))]
  · rw [relM_39]
    by_cases z : k = j
    · rw [if_pos z, if_pos ⟨by omega, p1_t.mpr z⟩]
    · rw [if_neg z, if_neg (fun y => z (p1_t.mp y.2))]
/-- one that waits passes or goes -/
theorem Rel_state {i n j v : Nat} {C R : Sg} (h : Rel i n C R) (hj : j < n) (hb : gA R 38 j ≠ 1) (hv : v ≤ 3) (hv1 : v ≠ 1) : Rel i n (sA C 58 j (nI v)) (sA R 38 j (nI v)) := by
  have n1 : nI v ≠ 1 := fun q => hv1 ((nI_eq (b := 1) (by omega) (by decide)).mp q)
  have e0 : ∀ k, gA (sA R 38 j (nI v)) 38 k = if k = j then nI v else gA R 38 k := fun _ => rfl
  have e1 : ∀ k, gA (sA C 58 j (nI v)) 58 k = if k = j then nI v else gA C 58 k := fun _ => rfl
  refine Rel_upd h (ag_sA ag_rf (by decide)) (ag_sA ag_rf (by decide)) (fun x hL k hk => ?_) ?_ (fun _ _ => ⟨rfl, rfl⟩)
  · obtain ⟨g1, g2, g3, g4, g5, g6, g7, g8, g9, g10, g11, g12, g13, g14, g15, g16, g17, g18, g19⟩ := hL k hk
    refine ⟨g1, g2, g3, g4, g5, g6, g7, g8, by rw [e0, e1, g9], g10, g11, g12, g13, g14, g15, g16, ?_, ?_, ?_⟩
    · rw [e0]
      by_cases z : k = j
      · rw [if_pos z]; exact ⟨v, hv, rfl⟩
      · rw [if_neg z]; exact g17
    · rw [e0]
      by_cases z : k = j
      · rw [if_pos z]; exact fun q => absurd q n1
      · rw [if_neg z]; exact g18
    · rw [e0]
      by_cases z : k = j
      · intro _; subst z; exact g19 hb
      · rw [if_neg z]; exact g19
  · obtain ⟨-, h3, -⟩ := h
    refine ⟨fun a b ha hb' q1 q2 q3 => ?_, fun s hs => ?_⟩
    · rw [e0] at q1 q2
      by_cases za : a = j
      · rw [if_pos za] at q1; exact absurd q1 n1
      · by_cases zb : b = j
        · rw [if_pos zb] at q2; exact absurd q2 n1
        · rw [if_neg za] at q1; rw [if_neg zb] at q2
          exact h3.1 a b ha hb' q1 q2 q3
    · rcases h3.2 s hs with ⟨e, g⟩ | ⟨k, k1, k2, k3, k4⟩
      · refine Or.inl ⟨e, fun k hk q1 q2 => ?_⟩
        rw [e0] at q1
        by_cases z : k = j
        · rw [if_pos z] at q1; exact absurd q1 n1
        · rw [if_neg z] at q1; exact g k hk q1 q2
      · refine Or.inr ⟨k, k1, ?_, k3, k4⟩
        rw [e0, if_neg (fun z => hb (by rw [← z]; exact k2))]
        exact k2
theorem Rel_tries {i n j : Nat} {v : Int32} {C R : Sg} (h : Rel i n C R) (hj : j < n) : Rel i n (sA C 60 j v) (sA R 40 j v) := by
  refine Rel_upd h (ag_sA ag_rf (by decide)) (ag_sA ag_rf (by decide)) (fun x hL k hk => ?_) (RelK_R (RelK_C h.2.1 rfl) rfl rfl) (fun k hk => ⟨?_, rfl⟩)
  · obtain ⟨g1, g2, g3, g4, g5, g6, g7, g8, g9, g10, g11, g12, g13⟩ := hL k hk
    refine ⟨g1, g2, g3, g4, g5, g6, g7, g8, g9, g10, ?_, g12, g13⟩
    show upd (gA C 60) j v k = upd (gA R 40) j v k
    by_cases z : k = j
    · subst z; rw [pk_us, pk_us]
    · rw [pk_un z, pk_un z]; exact g11
  · show upd (gA R 40) j v k = _
    rw [pk_un (by omega)]
theorem Rel_ups {i n j : Nat} {v : Int32} {C R : Sg} (h : Rel i n C R) (hj : j < n) : Rel i n (sA C 61 j v) (sA R 41 j v) := by
  refine Rel_upd h (ag_sA ag_rf (by decide)) (ag_sA ag_rf (by decide)) (fun x hL k hk => ?_) (RelK_R (RelK_C h.2.1 rfl) rfl rfl) (fun k hk => ⟨rfl, ?_⟩)
  · obtain ⟨g1, g2, g3, g4, g5, g6, g7, g8, g9, g10, g11, g12, g13⟩ := hL k hk
    refine ⟨g1, g2, g3, g4, g5, g6, g7, g8, g9, g10, g11, ?_, g13⟩
    show upd (gA C 61) j v k = upd (gA R 41) j v k
    by_cases z : k = j
    · subst z; rw [pk_us, pk_us]
    · rw [pk_un z, pk_un z]; exact g12
  · show upd (gA R 41) j v k = _
    rw [pk_un (by omega)]
def updN (f : Nat → Nat) (e v : Nat) : Nat → Nat := fun k => if k = e then v else f k
theorem sumN_upd (f : Nat → Nat) (e d : Nat) : ∀ k, sumN (updN f e (f e + d)) k = sumN f k + (if e < k then d else 0) := by
  intro k
  induction k with
  | zero => rfl
  | succ k ih =>
    show sumN (updN f e (f e + d)) k + (if k = e then f e + d else f k) = sumN f k + f k + _
    rw [ih]
    by_cases z : k = e
    · subst z
      rw [if_pos rfl, if_neg (Nat.lt_irrefl k), if_pos (Nat.lt_succ_self k)]
      omega
    · rw [if_neg z]
      by_cases y : e < k
      · rw [if_pos y, if_pos (by omega)]; omega
      · rw [if_neg y, if_neg (by omega)]; omega
def nt1 (C : Sg) (e : Nat) : Sg := sI (sA C 3 e (gA C 3 e + 1)) 2 (gI C 2 + 1)
def nt2 (C : Sg) (e : Nat) : Sg := sI (sA C 4 e (gA C 4 e + 1)) 3 (gI C 3 + 1)
def nr1 (R : Sg) (e : Nat) (v : Int32) : Sg := sI (sA (sA R 28 e (gA R 28 e + 1)) 29 e (gA R 29 e + v)) 42 (gI R 42 + 1)
theorem Rel_test0 {i n e x' : Nat} {C R : Sg} (h : Rel i n C R) (hx : gI C 0 = nI x') (hx8 : x' ≤ 8) (hex : e < x') : Rel (i + 1) n (nt1 C e) (nr1 R e 0) := by
  obtain ⟨⟨w, x, h1, h2⟩, h3, ⟨tf, pf, p1, p2, p3, p4, p5⟩, ⟨m, h5⟩, h6, h7, h8, h9⟩ := h
  obtain ⟨b1, b2, b3, b4, b5, b6, b7, b8, b9, b10, b11, b12⟩ := h1
  have ex : x' = x := (nI_eq (by omega) (by omega)).mp (hx.symm.trans b8)
  subst ex
  have he : e < 8 := by omega
  refine ⟨⟨w, x', ⟨b1, b2, b3, b4, b5, b6, b7, b8, b9, b10, fun e' d q1 q2 q3 => ⟨(b11 e' d q1 q2 q3).1, (show upd (gA R 28) e _ e' = 0 from by rw [pk_un (by omega)]; exact (b11 e' d q1 q2 q3).2)⟩, b12⟩, RelL_R (RelL_C h2 rfl rfl rfl rfl rfl rfl rfl rfl rfl rfl rfl rfl) rfl rfl rfl rfl rfl rfl rfl rfl rfl rfl rfl⟩, RelK_R (RelK_C h3 rfl) rfl rfl, ⟨updN tf e (tf e + 1), pf, fun k hk => ?_, ?_, ?_, ?_, ?_⟩, ⟨m, RelS_R (RelS_C h5 rfl (fun a q => by show gA (sA C 3 e _) a = _; rw [gA_sA, if_neg (by omega)])) rfl rfl rfl rfl rfl rfl rfl⟩, RelD_R (RelD_C h6 rfl rfl) rfl rfl, RelF_R (RelF_C h7 rfl rfl) rfl rfl, RelX_R (RelX_C h8 rfl rfl rfl rfl) rfl rfl rfl rfl rfl rfl, h9⟩
  · obtain ⟨q1, q2, q3, q4, q5⟩ := p1 k hk
    obtain ⟨r1, r2, r3, r4, r5⟩ := p1 e he
    show upd (gA C 3) e _ k = nI (if k = e then tf e + 1 else tf k) ∧ upd (gA R 28) e _ k = nI (if k = e then tf e + 1 else tf k) ∧ gA C 4 k = _ ∧ upd (gA R 29) e _ k = _ ∧ pf k ≤ (if k = e then tf e + 1 else tf k)
    by_cases z : k = e
    · subst z
      rw [pk_us, pk_us, pk_us, if_pos rfl, r1, r2, r4, nI_1, Int32.add_zero]
      exact ⟨rfl, rfl, r3, rfl, by omega⟩
    · rw [pk_un z, pk_un z, pk_un z, if_neg z]
      exact ⟨q1, q2, q3, q4, q5⟩
  · rw [sumN_upd, if_pos he]; omega
  · show gI C 2 + 1 = _
    rw [sumN_upd, if_pos he, p3, nI_1]
  · show gI R 42 + 1 = _
    rw [sumN_upd, if_pos he, p4, nI_1]
  · exact p5
theorem Rel_test1 {i n e x' : Nat} {C R : Sg} (h : Rel i n C R) (hx : gI C 0 = nI x') (hx8 : x' ≤ 8) (hex : e < x') : Rel (i + 1) n (nt2 (nt1 C e) e) (nr1 R e 1) := by
  obtain ⟨⟨w, x, h1, h2⟩, h3, ⟨tf, pf, p1, p2, p3, p4, p5⟩, ⟨m, h5⟩, h6, h7, h8, h9⟩ := h
  obtain ⟨b1, b2, b3, b4, b5, b6, b7, b8, b9, b10, b11, b12⟩ := h1
  have ex : x' = x := (nI_eq (by omega) (by omega)).mp (hx.symm.trans b8)
  subst ex
  have he : e < 8 := by omega
  refine ⟨⟨w, x', ⟨b1, b2, b3, b4, b5, b6, b7, b8, b9, b10, fun e' d q1 q2 q3 => ⟨(b11 e' d q1 q2 q3).1, (show upd (gA R 28) e _ e' = 0 from by rw [pk_un (by omega)]; exact (b11 e' d q1 q2 q3).2)⟩, b12⟩, RelL_R (RelL_C h2 rfl rfl rfl rfl rfl rfl rfl rfl rfl rfl rfl rfl) rfl rfl rfl rfl rfl rfl rfl rfl rfl rfl rfl⟩, RelK_R (RelK_C h3 rfl) rfl rfl, ⟨updN tf e (tf e + 1), updN pf e (pf e + 1), fun k hk => ?_, ?_, ?_, ?_, ?_⟩, ⟨m, RelS_R (RelS_C h5 rfl (fun a q => by show gA (sA (sA C 3 e _) 4 e _) a = _; rw [gA_sA, if_neg (by omega), gA_sA, if_neg (by omega)])) rfl rfl rfl rfl rfl rfl rfl⟩, RelD_R (RelD_C h6 rfl rfl) rfl rfl, RelF_R (RelF_C h7 rfl rfl) rfl rfl, RelX_R (RelX_C h8 rfl rfl rfl rfl) rfl rfl rfl rfl rfl rfl, h9⟩
  · obtain ⟨q1, q2, q3, q4, q5⟩ := p1 k hk
    obtain ⟨r1, r2, r3, r4, r5⟩ := p1 e he
    show upd (gA C 3) e _ k = nI (if k = e then tf e + 1 else tf k) ∧ upd (gA R 28) e _ k = nI (if k = e then tf e + 1 else tf k) ∧ upd (gA C 4) e (gA C 4 e + 1) k = nI (if k = e then pf e + 1 else pf k) ∧ upd (gA R 29) e _ k = nI (if k = e then pf e + 1 else pf k) ∧ (if k = e then pf e + 1 else pf k) ≤ (if k = e then tf e + 1 else tf k)
    by_cases z : k = e
    · subst z
      rw [pk_us, pk_us, pk_us, pk_us, if_pos rfl, if_pos rfl, r1, r2, r3, r4, nI_1, nI_1]
      exact ⟨rfl, rfl, rfl, rfl, by omega⟩
    · rw [pk_un z, pk_un z, pk_un z, pk_un z, if_neg z, if_neg z]
      exact ⟨q1, q2, q3, q4, q5⟩
  · rw [sumN_upd, if_pos he]; omega
  · show gI C 2 + 1 = _
    rw [sumN_upd, if_pos he, p3, nI_1]
  · show gI R 42 + 1 = _
    rw [sumN_upd, if_pos he, p4, nI_1]
  · show gI C 3 + 1 = _
    rw [sumN_upd, if_pos he, p5, nI_1]
theorem op_held {i n : Nat} {C R : Sg} {a b : Int32} (h : Rel i n C R) : wX8_held n C a b (fun C' r => wX9_held R a b (Nx i n C' r)) := by
  have h0 := Rel_thr (v := 0) h
  obtain ⟨⟨w, x, hB, hL⟩, -⟩ := id h0
  obtain ⟨b1, b2, b3, b4, b5, b6, b7, b8, b9, b10, b11, b12⟩ := id hB
  unfold wX8_held
  refine z_find b1 b4 (fun c => ⟨fun _ => ?_, fun j q => absurd q (by simp)⟩) (fun j hj e => ⟨fun q => absurd q (by simp), fun j' q => ?_⟩)
  · intro M1 e1
    subst e1
    exact z_isLearner b1 b5 (fun _ => ⟨fun _ => Nx_same h0, fun q => absurd rfl q⟩) (fun j hj e => absurd c (fun q => q.elim (by rw [e]; exact nI_pos (by omega)) (by rw [e]; exact nI_ge hj (by omega))))
  · injection q with q
    subst q e
    obtain ⟨g1, g2, g3, g4, g5, g6, g7, g8, g9, g10, g11, g12, g13, g14, g15, g16, g17, g18, g19⟩ := hL j hj
    have hin : vp_in (nI j) 60 := vp_in_nI (by omega) (by decide)
    have hcl : (nI j).toNatClampNeg = j := nI_clamp (by omega)
    have start : ∀ Q : Sg → Int32 → Prop, (¬ gA R 38 j = 1 → Q (sI R 0 0) 0) → (gA R 38 j = 1 → ¬ gA R 39 j / (48 : Int32) = nI w → Q (sI R 0 0) 0) → (∀ s, s < 2880 → s % 8 < x → gA R 38 j = 1 → gA R 39 j / (48 : Int32) = nI w → gA R 39 j = nI s → (b = 0 → Q (sA (sA (relM (nr1 (sI R 0 0) (s % 8) 0) j) 38 j 0) 40 j (gA R 40 j + 1)) 1) ∧ (¬ b = 0 → Q (sA (sA (relM (nr1 (sI R 0 0) (s % 8) 1) j) 38 j 2) 40 j (gA R 40 j + 0)) 1)) → wX9_held R (nI j) b Q := by
      intro Q q1 q2 q3 M1 e1
      subst e1
      refine z_isLearner b1 b5 (fun c => absurd c (fun q => q.elim (nI_pos (by omega)) (nI_ge hj (by omega)))) (fun _ _ _ => ⟨fun q => absurd q (by decide), fun _ => ⟨hin, ?_⟩⟩)
      rw [hcl]
      refine ⟨q1, fun c1 => ⟨hin, fun c2 => ⟨hin, fun y ey => ?_⟩, fun c2 => q2 c1 (by rw [b7] at c2; exact c2)⟩⟩
      obtain ⟨s, s1, s2, s3⟩ := g18 c1
      rw [s3, z_rem8 s1] at ey
      subst ey
      have hin8 : vp_in (nI (s % 8)) 8 := vp_in_nI (by omega) (by decide)
      refine ⟨hin8, hin8, fun M5 e5 => ⟨hin8, fun cb => ⟨hin8, fun M6 e6 M7 e7 => z_waits (by omega) ?_⟩, fun cb => ⟨hin8, fun M6 e6 M7 e7 => z_waits (by omega) ?_⟩⟩⟩
      · rw [nI_clamp (by omega)] at e5 e6
        subst e5 e6 e7
        refine ⟨fun _ => ⟨hin, fun M8 e8 => ⟨hin, fun _ => ⟨hin, fun M9 e9 => ?_⟩, fun q => absurd cb q⟩⟩, fun q => absurd cb q⟩
        rw [hcl] at e8 e9
        subst e8 e9
        exact (q3 s s1 s2 c1 (by rw [b7] at c2; exact c2) s3).1 cb
      · rw [nI_clamp (by omega)] at e5 e6
        subst e5 e6 e7
        refine ⟨fun q => absurd q cb, fun _ => ⟨hin, fun M8 e8 => ⟨hin, fun q => absurd q cb, fun _ => ⟨hin, fun M9 e9 => ?_⟩⟩⟩⟩
        rw [hcl] at e8 e9
        subst e8 e9
        exact (q3 s s1 s2 c1 (by rw [b7] at c2; exact c2) s3).2 cb
    refine ⟨hj, fun c1 => ?_, fun c1 => ⟨hj, ?_⟩⟩
    · rw [g9] at c1
      exact start _ (fun _ => Nx_same h0) (fun _ _ => Nx_same h0) (fun _ _ _ q => absurd q c1)
    rw [g9] at c1
    obtain ⟨s, s1, s2, s3⟩ := g18 c1
    refine ⟨fun c2 => ⟨hj, ?_⟩, fun c2 => start _ (fun q => absurd c1 q) (fun _ _ => Nx_same h0) (fun s' t1 t2 t3 t4 t5 => absurd ?_ c2)⟩
    · unfold wX8_examinerOf
      rw [g10, s3, z_rem8 s1]
      rw [g10, b6] at c2
      have he8 : s % 8 < 8 := by omega
      have hin8 : vp_in (nI (s % 8)) 8 := vp_in_nI (by omega) (by decide)
      have h59 : gA C 59 j = nI s := g10.trans s3
      refine z_isExaminer b8 b3 (fun c => absurd c (fun q => q.elim (nI_pos (by omega)) (nI_ge s2 (by omega)))) (fun _ _ _ => ⟨fun _ => ⟨hin8, hin8, fun M3 e3 M4 e4 => ⟨fun cb => ?_, fun cb => ⟨hin8, hin8, fun M5 e5 M6 e6 => ?_⟩⟩⟩, fun q => absurd q (by decide)⟩)
      · rw [nI_clamp (by omega)] at e3
        subst e3 e4
        refine z_release hj s1 h59 ⟨fun _ => ⟨hj, hj, fun M7 e7 => ?_⟩, fun q => absurd cb q⟩
        subst e7
        refine start _ (fun q => absurd c1 q) (fun _ q => absurd c2 q) (fun s' t1 t2 t3 t4 t5 => ⟨fun _ => ?_, fun q => absurd cb q⟩)
        rw [show gA R 39 j = gA (sI R 0 0) 39 j from rfl, s3, nI_eq (by omega) (by omega)] at t5
        subst t5
        have k1 := Rel_test0 h0 b8 b3 s2
        have k2 := Rel_rel1 k1 hj c1 s1 s3
        have k3 := Rel_tries (v := gA R 40 j + 1) k2 hj
        refine ⟨rfl, ?_⟩
        rw [show sA (relM (nr1 (sI R 0 0) (s % 8) 0) j) 38 j 0 = relM (nr1 (sI R 0 0) (s % 8) 0) j from ?_]
        · have : gA (relC (nt1 C (s % 8)) s j) 60 j + 1 = gA R 40 j + 1 := congrArg (· + 1) g11
          show Rel (i + 1) n (sA (relC (nt1 C (s % 8)) s j) 60 j (gA (relC (nt1 C (s % 8)) s j) 60 j + 1)) _
          rw [this]
          exact k3
        · have := sA_id (relM (nr1 (sI R 0 0) (s % 8) 0) j) 38 j
          rw [relM_38, if_pos rfl] at this
          exact this
      · rw [nI_clamp (by omega)] at e3 e5
        subst e3 e4 e5 e6
        refine z_release hj s1 h59 ⟨fun q => absurd q cb, fun _ => ⟨hj, fun M7 e7 => ?_⟩⟩
        subst e7
        refine start _ (fun q => absurd c1 q) (fun _ q => absurd c2 q) (fun s' t1 t2 t3 t4 t5 => ⟨fun q => absurd q cb, fun _ => ?_⟩)
        rw [show gA R 39 j = gA (sI R 0 0) 39 j from rfl, s3, nI_eq (by omega) (by omega)] at t5
        subst t5
        have k1 := Rel_test1 h0 b8 b3 s2
        have k2 := Rel_rel1 k1 hj c1 s1 s3
        have k3 := Rel_state (v := 2) k2 hj (by rw [relM_38, if_pos rfl]; decide) (by decide) (by decide)
        refine ⟨rfl, ?_⟩
        rw [show sA (sA (relM (nr1 (sI R 0 0) (s % 8) 1) j) 38 j 2) 40 j (gA R 40 j + 0) = sA (relM (nr1 (sI R 0 0) (s % 8) 1) j) 38 j 2 from ?_]
        · exact k3
        · rw [Int32.add_zero]
          exact sA_id (sA (relM (nr1 (sI R 0 0) (s % 8) 1) j) 38 j 2) 40 j
    · show gA C 59 j / (48 : Int32) = gI C 1
      rw [g10, b6]
      exact t4
/-! learner -/
theorem Rel_learner {i n : Nat} {C R : Sg} {a b c d e f : Int32} (h : Rel i n C R) (hn : n < 60) (ha : ∃ t, t ≤ 5 ∧ a = nI t) (hc : ∃ t, t ≤ 59 ∧ c = nI t) (hd : ∃ t, t ≤ 59 ∧ d = nI t) (he : ∃ t, t ≤ 59 ∧ e = nI t) : Rel i (n + 1) (nlM C n a b c d e f) (sI (sA (sA (sA (sA (sA (sA (sA (sA (sA R 31 n a) 32 n b) 33 n c) 34 n d) 35 n e) 36 n f) 37 n (gI R 24)) 38 n 0) 39 n (-1)) 30 (gI R 30 + 1)) := by
  obtain ⟨⟨w, x, h1, h2⟩, h3, h4, ⟨m, h5⟩, h6, h7, h8, h9⟩ := h
  obtain ⟨b1, b2, b3, b4, b5, b6, b7, b8, b9, b10, b11, b12⟩ := h1
  have one : (0 : Int32) ≠ 1 := by decide
  refine ⟨⟨w, x, ⟨by omega, b2, b3, by show gI C 23 + 1 = _; rw [b4, nI_1], by show gI R 30 + 1 = _; rw [b5, nI_1], b6, b7, b8, b9, b10, b11, b12⟩, fun j hj => ?_⟩, ⟨fun u v hu hv q1 q2 q3 => ?_, fun s hs => ?_⟩, RelP_R (RelP_C h4 rfl rfl rfl rfl) rfl rfl rfl, ⟨m, RelS_R (RelS_C h5 rfl (fun a q => ?_)) rfl rfl rfl rfl rfl rfl rfl⟩, RelD_R (RelD_C h6 rfl rfl) rfl rfl, RelF_R (RelF_C h7 rfl rfl) rfl rfl, RelX_R (RelX_C h8 rfl rfl rfl rfl) rfl rfl rfl rfl rfl rfl, h9.1, fun j hj => h9.2 j (by omega)⟩
  · show upd (gA C 50) n (gI C 23) j = nI j ∧ upd (gA C 51) n (gI C 1) j = upd (gA R 37) n (gI R 24) j ∧ upd (gA C 52) n a j = upd (gA R 31) n a j ∧ upd (gA C 53) n b j = upd (gA R 32) n b j ∧ upd (gA C 54) n c j = upd (gA R 33) n c j ∧ upd (gA C 55) n d j = upd (gA R 34) n d j ∧ upd (gA C 56) n e j = upd (gA R 35) n e j ∧ upd (gA C 57) n f j = upd (gA R 36) n f j ∧ upd (gA C 58) n 0 j = upd (gA R 38) n 0 j ∧ upd (gA C 59) n (-1) j = upd (gA R 39) n (-1) j ∧ upd (gA C 60) n 0 j = gA R 40 j ∧ upd (gA C 61) n 0 j = gA R 41 j ∧
      (∃ t, t ≤ 5 ∧ upd (gA R 31) n a j = nI t) ∧ (∃ t, t ≤ 59 ∧ upd (gA R 33) n c j = nI t) ∧ (∃ t, t ≤ 59 ∧ upd (gA R 34) n d j = nI t) ∧ (∃ t, t ≤ 59 ∧ upd (gA R 35) n e j = nI t) ∧ (∃ t, t ≤ 3 ∧ upd (gA R 38) n 0 j = nI t) ∧
      (upd (gA R 38) n 0 j = 1 → ∃ s, s < 2880 ∧ s % 8 < x ∧ upd (gA R 39) n (-1) j = nI s) ∧ (upd (gA R 38) n 0 j ≠ 1 → upd (gA R 39) n (-1) j = -1)
    by_cases z : j = n
    · subst z
      simp only [pk_us]
      refine ⟨b4, by rw [b6, b7], trivial, trivial, trivial, trivial, trivial, trivial, trivial, trivial, (h9.2 j (Nat.le_refl j)).1.symm, (h9.2 j (Nat.le_refl j)).2.symm, ha, hc, hd, he, ⟨0, by omega, rfl⟩, fun q => absurd q one, fun _ => trivial⟩
    · simp only [pk_un z]
      exact h2 j (by omega)
  · have e0 : ∀ k, gA (sI (sA (sA (sA (sA (sA (sA (sA (sA (sA R 31 n a) 32 n b) 33 n c) 34 n d) 35 n e) 36 n f) 37 n (gI R 24)) 38 n 0) 39 n (-1)) 30 (gI R 30 + 1)) 38 k = upd (gA R 38) n 0 k := fun _ => rfl
    have e1 : ∀ k, gA (sI (sA (sA (sA (sA (sA (sA (sA (sA (sA R 31 n a) 32 n b) 33 n c) 34 n d) 35 n e) 36 n f) 37 n (gI R 24)) 38 n 0) 39 n (-1)) 30 (gI R 30 + 1)) 39 k = upd (gA R 39) n (-1) k := fun _ => rfl
    rw [e0] at q1 q2
    rw [e1, e1] at q3
    by_cases zu : u = n
    · rw [zu, pk_us] at q1; exact absurd q1 one
    · by_cases zv : v = n
      · rw [zv, pk_us] at q2; exact absurd q2 one
      · rw [pk_un zu] at q1 q3; rw [pk_un zv] at q2 q3
        exact h3.1 u v (by omega) (by omega) q1 q2 q3
  · show (gA C 2 s = -1 ∧ ∀ j, j < n + 1 → upd (gA R 38) n 0 j = 1 → upd (gA R 39) n (-1) j ≠ nI s) ∨ ∃ j, j < n + 1 ∧ upd (gA R 38) n 0 j = 1 ∧ upd (gA R 39) n (-1) j = nI s ∧ gA C 2 s = nI j
    rcases h3.2 s hs with ⟨g1, g2⟩ | ⟨j, j1, j2, j3, j4⟩
    · refine Or.inl ⟨g1, fun j hj q1 q2 => ?_⟩
      by_cases z : j = n
      · rw [z, pk_us] at q1; exact absurd q1 one
      · rw [pk_un z] at q1 q2; exact g2 j (by omega) q1 q2
    · have z : j ≠ n := by omega
      refine Or.inr ⟨j, by omega, ?_, ?_, j4⟩
      · rw [pk_un z]; exact j2
      · rw [pk_un z]; exact j3
  · show gA (sA (sA (sA (sA (sA (sA (sA (sA (sA (sA (sA (sA C 50 n _) 51 n _) 52 n _) 53 n _) 54 n _) 55 n _) 56 n _) 57 n _) 58 n _) 59 n _) 60 n _) 61 n _) a = _
    simp only [gA_sA]
    rw [if_neg (by omega), if_neg (by omega), if_neg (by omega), if_neg (by omega), if_neg (by omega), if_neg (by omega), if_neg (by omega), if_neg (by omega), if_neg (by omega), if_neg (by omega), if_neg (by omega), if_neg (by omega)]
theorem op_learner {i n : Nat} {C R : Sg} {a b c d e f : Int32} (h : Rel i n C R) (hf : narrow .boolean (.int f) = .int f) (hf2 : fits .boolean (.int f) = true) (hf3 : vp_nar .boolean f = f) : wX8_learner n C a b c d e f (fun n' C' r => wX9_learner R a b c d e f (Nx i n' C' r)) := by
  have h0 := Rel_thr (v := 0) h
  obtain ⟨⟨w, x, hB, hL⟩, -⟩ := id h0
  obtain ⟨b1, b2, b3, b4, b5, b6, b7, b8, b9, b10, b11, b12⟩ := id hB
  have e60 : (60 : Int32) = nI 60 := rfl
  have no : ∀ (C' : Sg) (r : Int32), C' = C → r = -1 → (a < 0 ∨ 5 < a ∨ b < 0 ∨ 3 < b ∨ c < 0 ∨ 59 < d ∨ d < c ∨ e < 0 ∨ 59 < e ∨ nI n = 60) → wX9_learner R a b c d e f (Nx i n C' r) := by
    intro C' r eC er hc M1 e1
    subst e1 eC er
    rw [b5]
    refine ⟨fun _ => Nx_same h0, fun c1 => ⟨fun _ => Nx_same h0, fun c2 => ⟨fun _ => Nx_same h0, fun c3 => ⟨fun _ => Nx_same h0, fun c4 => ⟨fun _ => Nx_same h0, fun c5 => ⟨fun _ => Nx_same h0, fun c6 => ⟨fun _ => Nx_same h0, fun c7 => ⟨fun _ => Nx_same h0, fun c8 => ⟨fun _ => Nx_same h0, fun c9 => ⟨fun c10 => ?_, fun _ => Nx_same h0⟩⟩⟩⟩⟩⟩⟩⟩⟩⟩
    rcases hc with q | q | q | q | q | q | q | q | q | q
    · exact absurd q c1
    · exact absurd q c2
    · exact absurd q c3
    · exact absurd q c4
    · exact absurd q c5
    · exact absurd q c6
    · exact absurd q c7
    · exact absurd q c8
    · exact absurd q c9
    · exact absurd q c10
  refine z_within (fun k => ⟨fun _ => no _ _ rfl rfl (k.elim Or.inl (fun q => Or.inr (Or.inl q))), fun q => absurd rfl q⟩) (fun a1 a2 => ⟨fun q => absurd q (by decide), fun _ => ?_⟩)
  refine z_within (fun k => ⟨fun q => absurd rfl q, fun _ => no _ _ rfl rfl (k.elim (fun q => Or.inr (Or.inr (Or.inl q))) (fun q => Or.inr (Or.inr (Or.inr (Or.inl q)))))⟩) (fun k1 k2 => ⟨fun _ => ?_, fun q => absurd q (by decide)⟩)
  have lt59 : ∀ {y : Int32}, nI 60 ≤ y → 59 < y := fun q => z_59.mpr q
  refine z_isDay (fun k => ⟨fun _ => ?_, fun q => absurd rfl q⟩) (fun cc hcc ecc => ⟨fun q => absurd q (by decide), fun _ => ?_⟩)
  · rcases k with q | q
    · exact no _ _ rfl rfl (Or.inr (Or.inr (Or.inr (Or.inr (Or.inl q)))))
    · refine no _ _ rfl rfl (Or.inr (Or.inr (Or.inr (Or.inr (Or.inr ?_)))))
      by_cases z : d < c
      · exact Or.inr (Or.inl z)
      · exact Or.inl (Int32.lt_of_lt_of_le (lt59 q) (Int32.not_lt.mp z))
  refine z_isDay (fun k => ⟨fun _ => ?_, fun q => absurd rfl q⟩) (fun dd hdd edd => ⟨fun q => absurd q (by decide), fun _ => ?_⟩)
  · rcases k with q | q
    · refine no _ _ rfl rfl (Or.inr (Or.inr (Or.inr (Or.inr ?_))))
      by_cases z : d < c
      · exact Or.inr (Or.inr (Or.inl z))
      · exact Or.inl (Int32.lt_of_le_of_lt (Int32.not_lt.mp z) q)
    · exact no _ _ rfl rfl (Or.inr (Or.inr (Or.inr (Or.inr (Or.inr (Or.inl (lt59 q)))))))
  refine z_isDay (fun k => ⟨fun _ => ?_, fun q => absurd rfl q⟩) (fun ee hee eee => ⟨fun q => absurd q (by decide), fun _ => ⟨fun cd => ⟨fun cn => ?_, fun cn => ?_⟩, fun cd => ?_⟩⟩)
  · rcases k with q | q
    · exact no _ _ rfl rfl (Or.inr (Or.inr (Or.inr (Or.inr (Or.inr (Or.inr (Or.inr (Or.inl q))))))))
    · exact no _ _ rfl rfl (Or.inr (Or.inr (Or.inr (Or.inr (Or.inr (Or.inr (Or.inr (Or.inr (Or.inl (lt59 q))))))))))
  · rw [b4, e60, nI_ltI (by omega) (by decide)] at cn
    refine ⟨b4, cn, hf, hf2, ?_⟩
    intro M1 e1
    subst e1
    rw [b5]
    have hin : vp_in (gI (sI R 0 0) 30) 60 := by rw [b5]; exact vp_in_nI cn (by decide)
    have hcl : (gI (sI R 0 0) 30).toNatClampNeg = n := by rw [b5]; exact nI_clamp (by omega)
    subst ecc edd eee
    refine ⟨fun q => absurd q (Int32.not_lt.mpr a1), fun _ => ⟨fun q => absurd q (Int32.not_lt.mpr a2), fun _ => ⟨fun q => absurd q (Int32.not_lt.mpr k1), fun _ => ⟨fun q => absurd q (Int32.not_lt.mpr k2), fun _ => ⟨fun q => absurd q (nI_pos (by omega)), fun _ => ⟨fun q => absurd (z_59.mp q) (nI_ge hdd (by decide)), fun _ => ⟨fun q => absurd q (Int32.not_lt.mpr cd), fun _ => ⟨fun q => absurd q (nI_pos (by omega)), fun _ => ⟨fun q => absurd (z_59.mp q) (nI_ge hee (by decide)), fun _ => ⟨fun _ => ?_, fun q => ?_⟩⟩⟩⟩⟩⟩⟩⟩⟩⟩
    · rw [nI_clamp (by omega)]
      refine ⟨vp_in_nI cn (by decide), fun M2 e2 => ?_⟩
      subst e2
      refine ⟨hin, fun M3 e3 => ?_⟩
      subst e3
      refine ⟨hin, fun M4 e4 => ?_⟩
      subst e4
      refine ⟨hin, fun M5 e5 => ?_⟩
      subst e5
      refine ⟨hin, fun M6 e6 => ?_⟩
      subst e6
      refine ⟨hin, fun M7 e7 => ?_⟩
      subst e7
      refine ⟨hin, fun M8 e8 => ?_⟩
      subst e8
      refine ⟨hin, fun M9 e9 => ?_⟩
      subst e9
      refine ⟨hin, fun M10 e10 M11 e11 => ?_⟩
      subst e10 e11
      have hr := Rel_learner (i := i + 1) (f := f) (b := b) (Rel_mono h0 (Nat.le_succ i)) cn (z_rng (l := 0) (h := 5) rfl rfl (by decide) (by decide) a1 a2 |>.elim (fun t ht => ⟨t, ht.2⟩)) ⟨cc, by omega, rfl⟩ ⟨dd, by omega, rfl⟩ ⟨ee, by omega, rfl⟩
      refine ⟨?_, ?_⟩
      · show gI (sI R 0 0) 30 + 1 - 1 = gI C 23
        rw [b5, b4, nI_1, nI_pred]
      · simp only [hf3]
        show Rel (i + 1) (n + 1) _ (sI (sA (sA (sA (sA (sA (sA (sA (sA (sA (sI R 0 0) 31 n a) 32 (gI (sI R 0 0) 30).toNatClampNeg b) 33 (gI (sI R 0 0) 30).toNatClampNeg (nI cc)) 34 (gI (sI R 0 0) 30).toNatClampNeg (nI dd)) 35 (gI (sI R 0 0) 30).toNatClampNeg (nI ee)) 36 (gI (sI R 0 0) 30).toNatClampNeg f) 37 (gI (sI R 0 0) 30).toNatClampNeg (gI (sI R 0 0) 24)) 38 (gI (sI R 0 0) 30).toNatClampNeg 0) 39 (gI (sI R 0 0) 30).toNatClampNeg (-1)) 30 (gI (sI R 0 0) 30 + 1))
        rw [hcl]
        exact hr
    · rw [e60, nI_eq (by omega) (by decide)] at q
      omega
  · rw [b4, e60, nI_ltI (by omega) (by decide)] at cn
    exact no _ _ rfl rfl (Or.inr (Or.inr (Or.inr (Or.inr (Or.inr (Or.inr (Or.inr (Or.inr (Or.inr (by rw [show n = 60 by omega]; rfl))))))))))
  · exact no _ _ rfl rfl (Or.inr (Or.inr (Or.inr (Or.inr (Or.inr (Or.inr (Or.inl (Int32.not_le.mp cd))))))))
