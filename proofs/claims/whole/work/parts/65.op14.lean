/-! deal and shut: both sides -/
theorem ag_bsA {I A : List Nat} {R R' : Sg} {a j : Nat} {v : Int32} (h : ag I A R R') : ag I A (sA R a j v) (sA R' a j v) := by
  refine ⟨h.1, fun b hb => ?_, h.2.2⟩
  rw [gA_sA, gA_sA]
  by_cases e : b = a
  · rw [if_pos e, if_pos e, h.2.1 a (fun q => hb (by rw [e]; exact q))]
  · rw [if_neg e, if_neg e]; exact h.2.1 b hb
theorem Rel_RT {i n w x : Nat} {C R C' R' : Sg} (h : Rel i n C R) (hC : ag [4] [2, 5, 6, 7, 12, 16, 50, 51, 52, 53, 54, 55, 56, 57, 58, 59, 60, 61] C C') (hR : ag [0] [22, 23, 31, 32, 33, 34, 35, 36, 37, 38, 39, 40, 41, 43, 44] R R') (hT : RT n w x C' R') (hz : ∀ j, n ≤ j → gA R' 40 j = gA R 40 j ∧ gA R' 41 j = gA R 41 j) : Rel i n C' R' := by
  obtain ⟨-, h3, h4, ⟨m, h5⟩, h6, h7, h8, h9⟩ := h
  obtain ⟨e, f, -⟩ := hC
  obtain ⟨e', f', g'⟩ := hR
  refine ⟨⟨w, x, hT.1, hT.2.1⟩, hT.2.2, RelP_R (RelP_C h4 (e 2 (by decide)) (e 3 (by decide)) (f 3 (by decide)) (f 4 (by decide))) (e' 42 (by decide)) (f' 28 (by decide)) (f' 29 (by decide)), ⟨m, RelS_R (RelS_C h5 (e 5 (by decide)) (fun a q => f a (by simp; omega))) (e' 45 (by decide)) (f' 46 (by decide)) (f' 47 (by decide)) (f' 48 (by decide)) (f' 49 (by decide)) (f' 50 (by decide)) (f' 51 (by decide))⟩, RelD_R (RelD_C h6 (e 6 (by decide)) (f 26 (by decide))) (e' 55 (by decide)) (f' 54 (by decide)), RelF_R (RelF_C h7 (e 14 (by decide)) (f 8 (by decide))) (e' 2 (by decide)) (f' 1 (by decide)), RelX_R (RelX_C h8 (e 15 (by decide)) (f 9 (by decide)) (f 10 (by decide)) (f 11 (by decide))) (e' 15 (by decide)) (f' 10 (by decide)) (f' 11 (by decide)) (f' 12 (by decide)) (f' 13 (by decide)) (f' 14 (by decide)), g'.trans h9.1, fun j hj => ?_⟩
  rw [(hz j hj).1, (hz j hj).2]
  exact h9.2 j hj
theorem z_disC : ∀ a ∈ [0, 1, 2, 3, 4, 8, 9, 10, 11, 19, 20, 21, 22, 23, 24, 26, 30, 31, 32, 33, 34, 35, 36, 37, 38, 39, 40, 41, 50, 51, 52, 53, 54, 55, 56, 57, 58, 59, 60, 61], a ∉ [5, 6, 7, 12] := by decide
theorem z_disI : ∀ a ∈ [0, 1, 2, 3, 5, 6, 14, 15, 23], a ∉ [4] := by decide
theorem z_disR : ∀ a ∈ [1, 10, 11, 12, 13, 14, 26, 27, 28, 29, 30, 31, 32, 33, 34, 35, 36, 37, 38, 39, 40, 41, 46, 47, 48, 49, 50, 51, 54], a ∉ [22, 23, 43, 44] := by decide
theorem z_disJ : ∀ a ∈ [2, 15, 24, 25, 30, 42, 45, 55], a ∉ [0] := by decide
theorem Rel_line {i n : Nat} {C M R : Sg} (h : Rel i n C R) (a : ag [4] [5, 6, 7, 12] C M) : Rel i n M R := Rel_C h (fun k hk => a.1 k (z_disI k hk)) (fun k hk => a.2.1 k (z_disC k hk))
theorem Rel_agR {i n : Nat} {C R R' : Sg} (h : Rel i n C R) (a : ag [0] [22, 23, 43, 44] R R') : Rel i n C R' := Rel_R h (fun k hk => a.1 k (z_disJ k hk)) (fun k hk => a.2.1 k (z_disR k hk)) a.2.2
theorem okS_ag {n w x j s : Nat} {R R' : Sg} (a : ag [0] [22, 23, 43, 44] R R') : okS n w x R' j s ↔ okS n w x R j s := by
  unfold okS fre sui hh tw
  rw [a.2.1 26 (by decide), a.2.1 27 (by decide), a.2.1 31 (by decide), a.2.1 33 (by decide), a.2.1 34 (by decide), a.2.1 35 (by decide), a.2.1 38 (by decide), a.2.1 39 (by decide)]
theorem dl_cong {n w x : Nat} {g : Nat → Nat} : ∀ (d k : Nat) (C R R' : Sg), ag [0] [22, 23, 43, 44] R R' → (dl n w x g d k C R').1 = (dl n w x g d k C R).1 ∧ (dl n w x g d k C R').2.2 = (dl n w x g d k C R).2.2 := by
  intro d
  induction d with
  | zero => intro k C R R' _; exact ⟨rfl, rfl⟩
  | succ d ih =>
    intro k C R R' a
    have el : lf n w x R' (g k) = lf n w x R (g k) := lf_cong (fun s => okS_ag a)
    rcases lf_spec n w x R (g k) with ⟨e, -⟩ | ⟨t, e, -⟩
    · rw [dl_n e, dl_n (el.trans e)]
      exact ih (k + 1) C _ _ (ag_bsA a)
    · rw [dl_s e, dl_s (el.trans e)]
      have q := ih (k + 1) (bk C t (g k)) (bkM (sA R 44 (g k) 0) t (g k)) (bkM (sA R' 44 (g k) 0) t (g k)) (ag_bsA (ag_bsA (ag_bsA a)))
      exact ⟨q.1, by show _ + 1 = _ + 1; rw [q.2]⟩
theorem tail_C {n w x s : Nat} {g : Nat → Nat} {r : Nat → Int32} {M R0 : Sg} {Q : Sg → Int32 → Prop} (hD : DL n w x s g 0 M R0) (hL : LnR M r s g) (hq : Q (dl n w x g s 0 M R0).1 (nI (dl n w x g s 0 M R0).2.2)) : wX8_dealLine n M Q := ⟨s + 1, z_dealC s 0 0 M R0 (by omega) hD hL (by rw [Nat.zero_add]; exact hq)⟩
theorem tail_M {i n w x s : Nat} {g : Nat → Nat} {M R0 R1 : Sg} {Q : Sg → Int32 → Prop} (h : Rel i n M R0) (hD : DL n w x s g 0 M R0) (hS : srt (rk M) s g) (a : ag [0] [22, 23, 43, 44] R0 R1) (hd : ∀ j, j < n → (¬ gA R1 44 j = 0 ↔ ∃ i, i < s ∧ g i = j)) (hq : ∀ R2, Rel i n (dl n w x g s 0 M R0).1 R2 → Q R2 (nI (dl n w x g s 0 M R0).2.2)) : wX9_deals R1 Q := by
  have hT1 : RT n w x M R1 := RT_R hD.1 a
  have hX1 : RelX M R1 := (Rel_agR h a).2.2.2.2.2.2.1
  unfold wX9_deals
  refine z_findRanks hT1.1 hT1.2.1 hX1 (fun R2 a2 hr => ?_)
  have a02 : ag [0] [22, 23, 43, 44] R0 R2 := ag_tr a (ag_mono a2 (by simp) (by simp))
  have hD2 : DL n w x s g 0 M R2 := ⟨RT_R hD.1 a02, hD.2.1, hD.2.2.1, fun i h1 h2 => by rw [a02.2.1 38 (by decide)]; exact hD.2.2.2 i h1 h2⟩
  have cg := dl_cong (n := n) (w := w) (x := x) (g := g) s 0 M R0 R2 a02
  obtain ⟨k1, k2, k3⟩ := dl_ok s 0 M R2 (by omega) hD2
  refine z_dealM (r := rk M) s 0 0 M R2 _ (by omega) hD2 hS hr (fun j hj => ?_) ?_ (fun M1 r1 z => ⟨_, z⟩)
  · rw [a2.2.1 44 (by decide), hd j hj]
    exact ⟨fun ⟨i, h1, h2⟩ => ⟨i, Nat.zero_le i, h1, h2⟩, fun ⟨i, _, h1, h2⟩ => ⟨i, h1, h2⟩⟩
  · rw [Nat.zero_add, cg.2]
    refine hq _ ?_
    rw [← cg.1]
    refine Rel_RT h (ag_mono k2 (by simp) (by simp)) (ag_tr (ag_mono a02 (by simp) (by simp)) (ag_mono k3 (by simp) (by simp))) k1 (fun j _ => ?_)
    rw [k3.2.1 40 (by decide), k3.2.1 41 (by decide), a02.2.1 40 (by decide), a02.2.1 41 (by decide)]
    exact ⟨rfl, rfl⟩
theorem z_fill {n : Nat} {R : Sg} {Q : Sg → Int32 → Prop} (hn : n ≤ 60) (hc : gI R 30 = nI n) (hq : ∀ R', ag [] [44] R R' → (∀ j, j < n → (¬ gA R' 44 j = 0 ↔ gA R 38 j = 0)) → wX9_deals R' Q) : ∃ f, vX9_deal_7 Q f R (0 : Int32) := by
  have loop : ∀ (k l : Nat) (R' : Sg), l + k = n → ag [] [44] R R' → (∀ j, j < l → (¬ gA R' 44 j = 0 ↔ gA R 38 j = 0)) → vX9_deal_7 Q (k + 1) R' (nI l) := by
    intro k
    induction k with
    | zero =>
      intro l R' hl a h
      have el : l = n := by omega
      subst el
      exact ⟨fun _ => hq R' a h, fun c => absurd (by rw [a.1 30 (by simp), hc]; exact Int32.le_refl _) c⟩
    | succ k ih =>
      intro l R' hl a h
      have hin : vp_in (nI l) 60 := vp_in_nI (by omega) (by decide)
      have hcl : (nI l).toNatClampNeg = l := nI_clamp (by omega)
      have go : ∀ v : Int32, (¬ v = 0 ↔ gA R 38 l = 0) → vX9_deal_7 Q (k + 1) (sA R' 44 l v) (nI l + 1) := fun v hv => by
        rw [nI_1]
        refine ih (l + 1) _ (by omega) (ag_sA a (by decide)) (fun j hj => ?_)
        show ¬ upd (gA R' 44) l v j = 0 ↔ _
        by_cases e : j = l
        · rw [e, pk_us]; exact hv
        · rw [pk_un e]; exact h j (by omega)
      refine ⟨fun c => absurd c (by rw [a.1 30 (by simp), hc]; exact nI_ge (by omega) (by omega)), fun _ => ⟨hin, ?_⟩⟩
      rw [hcl, a.2.1 38 (by decide)]
      refine ⟨fun c => ⟨hin, fun M1 e1 y ey => ?_⟩, fun c => ⟨hin, fun M1 e1 y ey => ?_⟩⟩
      · rw [hcl, z_nar0] at e1
        rw [e1, ey]
        exact go 0 ⟨fun q => absurd rfl q, fun q => absurd q c⟩
      · rw [hcl, z_nar1] at e1
        rw [e1, ey]
        exact go 1 ⟨fun _ => c, fun _ => by decide⟩
  exact ⟨n + 1, loop n 0 R (by omega) ag_rf (fun j hj => absurd hj (Nat.not_lt_zero j))⟩
theorem op_deal {i n : Nat} {C R : Sg} (h : Rel i n C R) : wX8_deal n C (fun C' r => wX9_deal R (Nx i n C' r)) := by
  have h0 := Rel_thr (v := 0) h
  obtain ⟨⟨w, x, hB, hL⟩, hK, -, -, -, -, hX, -⟩ := id h0
  obtain ⟨b1, b2, b3, b4, b5, -⟩ := id hB
  unfold wX8_deal
  refine z_lineUpWaiting b1 b4 hX (fun M s g a hU => ?_)
  obtain ⟨u1, u2, u3, u4, u5⟩ := id hU
  have hM : Rel i n M (sI R 0 0) := Rel_line h0 a
  have er : rk M = rk C := funext (rk_ag a (by decide) (by decide) (by decide))
  have e8 : ∀ j, j < n → gA C 58 j = gA (sI R 0 0) 38 j := fun j hj => (hL j hj).2.2.2.2.2.2.2.2.1
  have hD : DL n w x s g 0 M (sI R 0 0) := ⟨RT_C ⟨hB, hL, hK⟩ a, fun i hi => (u3 i hi).1, fun i j hi hj e => srt_inj u2 hi hj e, fun i _ hi => by rw [← e8 (g i) (u3 i hi).1]; exact (u3 i hi).2⟩
  refine tail_C hD u1 ?_
  intro M1 e1
  subst e1
  refine z_fill b1 b5 (fun R1 a1 hf => ?_)
  refine tail_M hM hD (by rw [er]; exact u2) (ag_mono a1 (by simp) (by simp)) (fun j hj => ?_) (fun R2 hR2 => ⟨rfl, Rel_mono hR2 (Nat.le_succ i)⟩)
  rw [hf j hj, ← e8 j hj]
  refine ⟨fun q => u4 j hj q, fun ⟨i, h1, h2⟩ => ?_⟩
  rw [← h2]
  exact (u3 i h1).2
/-! shut -/
def psh (R : Sg) (d j : Nat) : Bool := decide (gA R 38 j = 1) && decide (gA R 39 j / (48 : Int32) = nI d)
theorem psh_t {R : Sg} {d j : Nat} : psh R d j = true ↔ gA R 38 j = 1 ∧ gA R 39 j / (48 : Int32) = nI d := by simp [psh]
theorem ag_relC {I A : List Nat} {C M : Sg} {s j : Nat} (h : ag I A C M) : ag I A (relC C s j) (relC M s j) := ag_bsA (ag_bsA (ag_bsA h))
theorem z_shutC {n w x d : Nat} {C R : Sg} {Q : Sg → Int32 → Prop} (hB : RelB n w x C R) (hL : RelL n x C R) (hX : RelX C R) (h4 : gI C 4 = 0) (hq : ∀ C1 M g, RC (psh R d) n C C1 → ag [4] [5, 6, 7, 12] C1 M → LU (rk C) (fun j => psh R d j = true) n M (cntB (psh R d) n) g → wX8_dealLine n M (fun M_1 r_2 => Q M_1 (gI M 4 - r_2))) : ∃ f, vX8_shut_48 n Q f C (nI d) (0 : Int32) := by
  have hn : n ≤ 60 := hB.1
  have hc : gI C 23 = nI n := hB.2.2.2.1
  have loop : ∀ (k l : Nat) (C1 M : Sg) (g : Nat → Nat), l + k = n → RC (psh R d) l C C1 → ag [4] [5, 6, 7, 12] C1 M → LU (rk C) (fun j => psh R d j = true) l M (cntB (psh R d) l) g → vX8_shut_48 n Q (k + 1) M (nI d) (nI l) := by
    intro k
    induction k with
    | zero =>
      intro l C1 M g hl h a u
      have el : l = n := by omega
      subst el
      exact ⟨fun _ => hq C1 M g h a u, fun c => absurd (by rw [a.1 23 (by decide), RC_I h, hc]; exact Int32.le_refl _) c⟩
    | succ k ih =>
      intro l C1 M g hl h a u
      have hin : vp_in (nI l) 60 := vp_in_nI (by omega) (by decide)
      have hcl : (nI l).toNatClampNeg = l := nI_clamp (by omega)
      obtain ⟨g1, g2, g3, g4, g5, g6, g7, g8, g9, g10, g11, g12, g13, g14, g15, g16, g17, g18, g19⟩ := hL l (by omega)
      have e8 : gA M 58 l = gA R 38 l := by rw [a.2.1 58 (by decide)]; exact (RC_at h).1.trans g9
      have e9 : gA M 59 l = gA R 39 l := by rw [a.2.1 59 (by decide)]; exact (RC_at h).2.trans g10
      refine ⟨fun c => absurd c (by rw [a.1 23 (by decide), RC_I h, hc]; exact nI_ge (by omega) (by omega)), fun _ => ⟨⟨hin, by rw [hcl]; omega⟩, by rw [hcl]; omega, ?_⟩⟩
      rw [hcl, e8]
      have skip : psh R d l = false → vX8_shut_100 n (vX8_shut_48 n Q (k + 1)) Q M (nI d) (nI l) := fun hp y ey => by
        rw [ey, nI_1]
        refine ih (l + 1) C1 M g (by omega) (RC_skip h hp) a ?_
        rw [show cntB (psh R d) (l + 1) = cntB (psh R d) l by show cntB (psh R d) l + _ = _; rw [hp]; rfl]
        exact LU_skip u (by rw [hp]; decide)
      refine ⟨fun c => skip (by simp [psh, c]), fun c => ⟨by omega, ?_⟩⟩
      unfold wX8_dayOf
      rw [e9]
      refine ⟨fun c2 => skip (by simp [psh, c2]), fun c2 => ?_⟩
      have hp : psh R d l = true := psh_t.mpr ⟨c, c2⟩
      obtain ⟨s, s1, s2, s3⟩ := g18 c
      refine z_release (by omega) s1 (by rw [e9]; exact s3) ?_
      have a' : ag [4] [5, 6, 7, 12] (relC C1 s l) (relC M s l) := ag_relC a
      have hR : RC (psh R d) (l + 1) C (relC C1 s l) := RC_rel h hp s1 (by rw [g10]; exact s3)
      have a2 : ag [4] [2, 5, 6, 7, 12, 58, 59] C (relC M s l) := ag_tr (ag_mono hR.1 (by simp) (by simp)) (ag_mono a' (by simp) (by simp))
      have u' : LU (rk C) (fun j => psh R d j = true) l (relC M s l) (cntB (psh R d) l) g := LU_ag u rfl rfl rfl
      refine z_rankadd (RelX_ag hX a2 (by decide) (by decide) (by decide) (by decide)) hn (by omega) (rk_ag a2 (by decide) (by decide) (by decide) l) u' hp (fun M3 g' a3 h3 => ?_)
      intro y ey
      rw [ey, nI_1]
      refine ih (l + 1) (relC C1 s l) M3 g' (by omega) hR (ag_tr a' a3) ?_
      rw [show cntB (psh R d) (l + 1) = cntB (psh R d) l + 1 by show cntB (psh R d) l + _ = _; rw [hp]; rfl]
      exact h3
  exact ⟨n + 1, loop n 0 C C (fun _ => 0) (by omega) RC_0 ag_rf (LU_0 h4)⟩
theorem z_shutM {n w x d : Nat} {C R : Sg} {Q : Sg → Int32 → Prop} (hB : RelB n w x C R) (hq : ∀ R1 M, RM (psh R d) n R R1 → ag [] [44] R1 M → (∀ j, j < n → (¬ gA M 44 j = 0 ↔ psh R d j = true)) → wX9_deals M (fun M_1 r_2 => Q M_1 (nI (cntB (psh R d) n) - r_2))) : ∃ f, vX9_shut_41 Q f R (nI d) (0 : Int32) (0 : Int32) := by
  have hn : n ≤ 60 := hB.1
  have hc : gI R 30 = nI n := hB.2.2.2.2.1
  have loop : ∀ (k l : Nat) (R1 M : Sg), l + k = n → RM (psh R d) l R R1 → ag [] [44] R1 M → (∀ j, j < l → (¬ gA M 44 j = 0 ↔ psh R d j = true)) → vX9_shut_41 Q (k + 1) M (nI d) (nI (cntB (psh R d) l)) (nI l) := by
    intro k
    induction k with
    | zero =>
      intro l R1 M hl h a u
      have el : l = n := by omega
      subst el
      exact ⟨fun _ => hq R1 M h a u, fun c => absurd (by rw [a.1 30 (by simp), RM_I h, hc]; exact Int32.le_refl _) c⟩
    | succ k ih =>
      intro l R1 M hl h a u
      have hin : vp_in (nI l) 60 := vp_in_nI (by omega) (by decide)
      have hcl : (nI l).toNatClampNeg = l := nI_clamp (by omega)
      have e8 : gA M 38 l = gA R 38 l := by rw [a.2.1 38 (by decide)]; exact (RM_at h).1
      have e9 : gA M 39 l = gA R 39 l := by rw [a.2.1 39 (by decide)]; exact (RM_at h).2
      refine ⟨fun c => absurd c (by rw [a.1 30 (by simp), RM_I h, hc]; exact nI_ge (by omega) (by omega)), fun _ => ⟨hin, ?_⟩⟩
      rw [hcl, e8, e9]
      have fill : ∀ (v : Int32) (M' : Sg), gA M' 44 = gA (sA M 44 l v) 44 → (¬ v = 0 ↔ psh R d l = true) → ∀ j, j < l + 1 → (¬ gA M' 44 j = 0 ↔ psh R d j = true) := fun v M' eM hv j hj => by
        rw [eM]
        show ¬ upd (gA M 44) l v j = 0 ↔ _
        by_cases e : j = l
        · rw [e, pk_us]; exact hv
        · rw [pk_un e]; exact u j (by omega)
      have skip : psh R d l = false → vX9_shut_82 (vX9_shut_41 Q (k + 1)) Q M (nI d) (nI (cntB (psh R d) l)) (nI l) (0 : Int32) (nI l) := fun hp => by
        refine ⟨hin, fun M1 e1 => ⟨hin, ?_⟩⟩
        rw [hcl, z_nar0] at e1
        subst e1
        rw [hcl]
        refine ⟨fun _ y ey => ?_, fun q => absurd (pk_us : upd (gA M 44) l 0 l = 0) q⟩
        rw [ey, nI_1, show cntB (psh R d) l = cntB (psh R d) (l + 1) by show _ = cntB (psh R d) l + _; rw [hp]; rfl]
        exact ih (l + 1) R1 _ (by omega) (RM_skip h hp) (ag_sA a (by decide)) (fill 0 _ rfl ⟨fun q => absurd rfl q, fun q => by rw [hp] at q; exact absurd q (by decide)⟩)
      refine ⟨fun c => skip (by simp [psh, c]), fun c => ⟨hin, fun c2 => skip (by simp [psh, c2]), fun c2 => ?_⟩⟩
      have hp : psh R d l = true := psh_t.mpr ⟨c, c2⟩
      refine ⟨hin, fun M1 e1 => ⟨hin, ?_⟩⟩
      rw [hcl, z_nar1] at e1
      subst e1
      rw [hcl]
      refine ⟨fun q => absurd ((pk_us : upd (gA M 44) l 1 l = 1).symm.trans q) (by decide), fun _ => z_waits (by omega) ?_⟩
      intro y ey z ez
      rw [ez, ey, nI_1, nI_1, show cntB (psh R d) l + 1 = cntB (psh R d) (l + 1) by show _ = cntB (psh R d) l + _; rw [hp]; rfl]
      refine ih (l + 1) (relM R1 l) _ (by omega) (RM_rel h hp) ?_ (fill 1 _ rfl ⟨fun _ => hp, fun _ => by decide⟩)
      exact ag_bsA (ag_bsA (ag_sA a (by decide)))
  exact ⟨n + 1, loop n 0 R R (by omega) RM_0 ag_rf (fun j hj => absurd hj (Nat.not_lt_zero j))⟩
theorem Rel_shutd {i n d : Nat} {C R : Sg} (h : Rel i n C R) : Rel i n (sI (sA C 1 d 1) 4 0) (sA R 27 d 1) := by
  obtain ⟨⟨w, x, h1, h2⟩, h3, h4, ⟨m, h5⟩, h6, h7, h8, h9⟩ := h
  obtain ⟨b1, b2, b3, b4, b5, b6, b7, b8, b9, b10, b11, b12⟩ := h1
  refine ⟨⟨w, x, ⟨b1, b2, b3, b4, b5, b6, b7, b8, b9, b10, b11, fun k hk => ?_⟩, RelL_R (RelL_C h2 rfl rfl rfl rfl rfl rfl rfl rfl rfl rfl rfl rfl) rfl rfl rfl rfl rfl rfl rfl rfl rfl rfl rfl⟩, RelK_R (RelK_C h3 rfl) rfl rfl, RelP_R (RelP_C h4 rfl rfl rfl rfl) rfl rfl rfl, ⟨m, RelS_R (RelS_C h5 rfl (fun a q => by rw [gA_sI, gA_sA, if_neg (by omega)])) rfl rfl rfl rfl rfl rfl rfl⟩, RelD_R (RelD_C h6 rfl rfl) rfl rfl, RelF_R (RelF_C h7 rfl rfl) rfl rfl, RelX_R (RelX_C h8 rfl rfl rfl rfl) rfl rfl rfl rfl rfl rfl, h9⟩
  show upd (gA C 1) d 1 k = upd (gA R 27) d 1 k
  by_cases e : k = d
  · rw [e, pk_us, pk_us]
  · rw [pk_un e, pk_un e]; exact b12 k hk
/-- the reference's state where all of p wait -/
def rmS (p : Nat → Bool) (n : Nat) (R : Sg) : Sg := sR (sR R 38 (fun j => if j < n ∧ p j = true then 0 else gA R 38 j)) 39 (fun j => if j < n ∧ p j = true then -1 else gA R 39 j)
theorem rmS_RM (p : Nat → Bool) (n : Nat) (R : Sg) : RM p n R (rmS p n R) := by
  refine ⟨⟨fun _ _ => rfl, fun a ha => ?_, rfl⟩, fun j => rfl, fun j => rfl⟩
  show (if a = 39 then _ else if a = 38 then _ else gA R a) = gA R a
  rw [if_neg (fun e => ha (by simp [e])), if_neg (fun e => ha (by simp [e]))]
theorem RM_eq {p : Nat → Bool} {n : Nat} {R R1 R2 : Sg} (h1 : RM p n R R1) (h2 : RM p n R R2) : ag [] [] R1 R2 := by
  refine ⟨fun k _ => by rw [RM_I h1, RM_I h2], fun a _ => ?_, h2.1.2.2.trans h1.1.2.2.symm⟩
  by_cases e1 : a = 38
  · subst e1; funext j; rw [h1.2.1 j, h2.2.1 j]
  · by_cases e2 : a = 39
    · subst e2; funext j; rw [h1.2.2 j, h2.2.2 j]
    · rw [RM_A h1 a e1 e2, RM_A h2 a e1 e2]
theorem op_shut {i n : Nat} {C R : Sg} {a : Int32} (h : Rel i n C R) : wX8_shut n C a (fun C' r => wX9_shut R a (Nx i n C' r)) := by
  have h0 := Rel_thr (v := 0) h
  obtain ⟨⟨w, x, hB, hL⟩, -⟩ := id h0
  obtain ⟨b1, b2, b3, b4, b5, b6, b7, b8, b9, b10, b11, b12⟩ := id hB
  unfold wX8_shut
  refine z_isDay (fun c => ⟨fun _ => ?_, fun q => absurd rfl q⟩) (fun d hd e => ⟨fun q => absurd q (by decide), fun _ => ?_⟩)
  · intro M1 e1
    subst e1
    refine ⟨fun _ => Nx_same h0, fun c1 => ⟨fun _ => Nx_same h0, fun c2 => absurd ?_ c1⟩⟩
    rcases c with c | c
    · rw [b7]; exact Int32.le_trans (Int32.le_of_lt c) (nI_pos' (by omega))
    · exact absurd (z_59.mpr c) c2
  · subst e
    have hin : vp_in (nI d) 60 := vp_in_nI (by omega) (by decide)
    have hcl : (nI d).toNatClampNeg = d := nI_clamp (by omega)
    have n59 : ¬ (59 : Int32) < nI d := fun q => absurd (z_59.mp q) (nI_ge hd (by decide))
    refine ⟨fun c => ?_, fun c => ?_⟩
    · intro M1 e1
      subst e1
      exact ⟨fun _ => Nx_same h0, fun q => absurd (by rw [b7]; rw [b6] at c; exact c) q⟩
    · have c' : ¬ nI d ≤ gI (sI R 0 0) 24 := by rw [b7]; rw [b6] at c; exact c
      unfold wX0_isShut
      refine z_isDay (fun q => absurd q (fun q => q.elim (nI_pos (by omega)) (nI_ge hd (by decide)))) (fun _ _ _ => ⟨fun q => absurd q (by decide), fun _ => ⟨hin, ?_⟩⟩)
      rw [hcl, b12 d hd]
      refine ⟨fun c2 => ⟨fun _ => ?_, fun q => absurd rfl q⟩, fun c2 => ⟨fun q => absurd q (by decide), fun _ => ?_⟩⟩
      · unfold wX0_shutDay
        refine z_isDay (fun q => absurd q (fun q => q.elim (nI_pos (by omega)) (nI_ge hd (by decide)))) (fun _ _ _ => ⟨fun q => absurd q (by decide), fun _ => ⟨hin, fun M3 e3 M4 e4 => ?_⟩⟩)
        rw [hcl, z_nar1] at e3
        subst e3 e4
        have h1 := Rel_shutd (d := d) h0
        obtain ⟨⟨w1, x1, hB1, hL1⟩, hK1, -, -, -, -, hX1, -⟩ := id h1
        refine z_shutC hB1 hL1 hX1 rfl (fun C1 M g hC a u => ?_)
        obtain ⟨u1, u2, u3, u4, u5⟩ := id u
        have hW : Rel i n C1 (rmS (psh (sA (sI R 0 0) 27 d 1) d) n (sA (sI R 0 0) 27 d 1)) := Rel_waits h1 (fun j _ q => (psh_t.mp q).1) hC (rmS_RM _ _ _)
        have hM := Rel_line hW a
        obtain ⟨⟨w2, x2, hB2, hL2⟩, hK2, -⟩ := id hM
        have er : rk M = rk (sI (sA C 1 d 1) 4 0) := funext (rk_ag (ag_tr (ag_mono hC.1 (by simp) (by simp)) (ag_mono a (by simp) (by simp)) : ag [4] [2, 5, 6, 7, 12, 58, 59] _ M) (by decide) (by decide) (by decide))
        have hD : DL n w2 x2 (cntB (psh (sA (sI R 0 0) 27 d 1) d) n) g 0 M (rmS (psh (sA (sI R 0 0) 27 d 1) d) n (sA (sI R 0 0) 27 d 1)) := ⟨⟨hB2, hL2, hK2⟩, fun i hi => (u3 i hi).1, fun i j hi hj e => srt_inj u2 hi hj e, fun i _ hi => by
          rw [(rmS_RM _ _ _).2.1 (g i), if_pos (u3 i hi)]⟩
        refine tail_C hD u1 ?_
        intro M1 e1
        subst e1
        refine ⟨fun q => absurd q c', fun _ => ⟨fun q => absurd q n59, fun _ => ⟨hin, ?_⟩⟩⟩
        rw [hcl]
        refine ⟨fun _ => ⟨hin, fun M2 e2 => ?_⟩, fun q => absurd c2 q⟩
        rw [z_nar1] at e2
        subst e2
        refine z_shutM hB1 (fun R1 R2 r1 r2 r3 => ?_)
        refine tail_M hM hD (by rw [er]; exact u2) (ag_tr (ag_mono (RM_eq (rmS_RM _ _ _) r1) (by simp) (by simp)) (ag_mono r2 (by simp) (by simp))) (fun j hj => ?_) (fun R3 hR3 => ⟨?_, Rel_mono hR3 (Nat.le_succ i)⟩)
        · rw [r3 j hj]
          refine ⟨fun q => u4 j hj q, fun ⟨i, i1, i2⟩ => ?_⟩
          rw [← i2]
          exact (u3 i i1).2
        · rw [u1.2.1]
      · intro M1 e1
        subst e1
        refine ⟨fun q => absurd q c', fun _ => ⟨fun q => absurd q n59, fun _ => ⟨hin, ?_⟩⟩⟩
        rw [hcl]
        exact ⟨fun q => absurd q c2, fun _ => Nx_same h0⟩
