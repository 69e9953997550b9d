/-! moving up: cancel and leave -/
def cnd (R : Sg) (s j : Nat) : Prop := gA R 38 j = 1 ∧ ¬ gA R 39 j ≤ nI s ∧ ¬ gA R 36 j = 0 ∧ sui R s j
def bst (n : Nat) (r : Nat → Int32) (R : Sg) (s j : Nat) : Prop := j < n ∧ cnd R s j ∧ ∀ k, k < n → cnd R s k → k ≠ j → ahd r j k
def mvC (C : Sg) (s t j : Nat) : Sg := sA (bk (relC C t j) s j) 61 j (gA C 61 j + 1)
def mvM (R : Sg) (s j : Nat) : Sg := sA (bkM R s j) 41 j (gA R 41 j + 1)
/-- d moves, the first into s -/
def MU (n w x : Nat) (r : Nat → Int32) : Nat → Nat → Sg → Sg → Sg → Sg → Prop
  | 0, s, C, R, C', R' => (fre n w x R s → ∀ k, k < n → ¬ cnd R s k) ∧ C' = C ∧ R' = R
  | d + 1, s, C, R, C', R' => fre n w x R s ∧ ∃ j t, bst n r R s j ∧ t < 2880 ∧ gA R 39 j = nI t ∧ MU n w x r d t (mvC C s t j) (mvM R s j) C' R'
theorem cnd_ag {s j : Nat} {R R' : Sg} (a : ag [0] [22, 23, 43, 44] R R') : cnd R' s j ↔ cnd R s j := by
  unfold cnd sui tw
  rw [a.2.1 26 (by decide), a.2.1 31 (by decide), a.2.1 33 (by decide), a.2.1 34 (by decide), a.2.1 35 (by decide), a.2.1 36 (by decide), a.2.1 38 (by decide), a.2.1 39 (by decide)]
theorem fre_ag {n w x s : Nat} {R R' : Sg} (a : ag [0] [22, 23, 43, 44] R R') : fre n w x R' s ↔ fre n w x R s := by
  unfold fre hh tw
  rw [a.2.1 26 (by decide), a.2.1 27 (by decide), a.2.1 38 (by decide), a.2.1 39 (by decide)]
theorem bst_ag {n s j : Nat} {r : Nat → Int32} {R R' : Sg} (a : ag [0] [22, 23, 43, 44] R R') : bst n r R' s j ↔ bst n r R s j := by
  unfold bst
  simp only [cnd_ag a]
theorem bst_u {n s j k : Nat} {r : Nat → Int32} {R : Sg} (h : bst n r R s j) (g : bst n r R s k) : k = j := by
  by_cases e : k = j
  · exact e
  · exact absurd (ahd_tr (h.2.2 k g.1 g.2.1 e) (g.2.2 j h.1 h.2.1 (fun q => e q.symm))) ahd_ir
theorem Rel_wx {i n w x : Nat} {C R : Sg} (h : Rel i n C R) (i1 : gI C 1 = nI w) (hw : w ≤ 59) (i0 : gI C 0 = nI x) (hx : x ≤ 8) : RT n w x C R := by
  obtain ⟨⟨w', x', hB, hL⟩, hK, -⟩ := h
  have e1 : w' = w := (nI_eq (by have := hB.2.1; omega) (by omega)).mp (hB.2.2.2.2.2.1.symm.trans i1)
  have e2 : x' = x := (nI_eq (by have := hB.2.2.1; omega) (by omega)).mp (hB.2.2.2.2.2.2.2.1.symm.trans i0)
  subst e1 e2
  exact ⟨hB, hL, hK⟩
theorem upd_upd {f : Nat → Int32} {j : Nat} {u v : Int32} : upd (upd f j u) j v = upd f j v := by
  funext k
  by_cases e : k = j
  · rw [e, pk_us, pk_us]
  · rw [pk_un e, pk_un e, pk_un e]
theorem bkM_relM (R : Sg) (s j : Nat) : bkM (relM R j) s j = bkM R s j := by
  refine Prod.ext rfl (Prod.ext (funext fun b => ?_) rfl)
  show gA (bkM (relM R j) s j) b = gA (bkM R s j) b
  unfold bkM relM
  by_cases e : b = 39
  · subst e
    show upd (upd (gA R 39) j (-1)) j (nI s) = upd (gA R 39) j (nI s)
    exact upd_upd
  · by_cases e2 : b = 38
    · subst e2
      show upd (upd (gA R 38) j 0) j 1 = upd (gA R 38) j 1
      exact upd_upd
    · simp only [gA_sA, if_neg e, if_neg e2]
theorem st3_relM (R : Sg) (j : Nat) : sA (relM R j) 38 j 3 = sA (sA R 38 j 3) 39 j (-1) := by
  refine Prod.ext rfl (Prod.ext (funext fun b => ?_) rfl)
  show gA (sA (relM R j) 38 j 3) b = gA (sA (sA R 38 j 3) 39 j (-1)) b
  unfold relM
  by_cases e : b = 38
  · subst e
    show upd (upd (gA R 38) j 0) j 3 = upd (gA R 38) j 3
    exact upd_upd
  · by_cases e2 : b = 39
    · subst e2; rfl
    · simp only [gA_sA, if_neg e, if_neg e2]
theorem Rel_book {i n w x j s : Nat} {C R : Sg} (h : Rel i n C R) (i1 : gI C 1 = nI w) (hw : w ≤ 59) (i0 : gI C 0 = nI x) (hx : x ≤ 8) (hj : j < n) (hst : gA R 38 j ≠ 1) (hs : s < 2880) (hsx : s % 8 < x) (hf : ∀ l, l < n → gA R 38 l = 1 → gA R 39 l ≠ nI s) : Rel i n (bk C s j) (bkM R s j) :=
  Rel_RT h (ag_sA (ag_sA (ag_sA ag_rf (by decide)) (by decide)) (by decide)) (ag_sA (ag_sA ag_rf (by decide)) (by decide)) (RT_book (Rel_wx h i1 hw i0 hx) hj hst hs hsx hf) (fun _ _ => ⟨rfl, rfl⟩)
theorem Rel_move {i n w x j s t : Nat} {C R : Sg} (h : Rel i n C R) (i1 : gI C 1 = nI w) (hw : w ≤ 59) (i0 : gI C 0 = nI x) (hx : x ≤ 8) (hj : j < n) (hb : gA R 38 j = 1) (ht : t < 2880) (he : gA R 39 j = nI t) (hs : s < 2880) (hf : fre n w x R s) : Rel i n (mvC C s t j) (mvM R s j) := by
  have hT := Rel_wx h i1 hw i0 hx
  have k1 := Rel_rel1 h hj hb ht he
  have k2 := Rel_book (w := w) (x := x) (s := s) k1 i1 hw i0 hx hj (by rw [relM_38, if_pos rfl]; decide) hs hf.2.2.1 (fun l hl q1 q2 => by
    rw [relM_38] at q1
    rw [relM_39] at q2
    by_cases e : l = j
    · rw [if_pos e] at q1; exact absurd q1 (by decide)
    · rw [if_neg e] at q1 q2; exact hf.2.2.2.2 l hl q1 q2)
  rw [bkM_relM] at k2
  have k3 := Rel_ups (v := gA C 61 j + 1) k2 hj
  unfold mvC mvM
  rw [← (hT.2.1 j hj).2.2.2.2.2.2.2.2.2.2.2.1]
  exact k3
def abv (R : Sg) (s j : Nat) : Bool := decide (gA R 38 j = 1) && decide (¬ gA R 39 j ≤ nI s)
theorem abv_t {R : Sg} {s j : Nat} : abv R s j = true ↔ gA R 38 j = 1 ∧ ¬ gA R 39 j ≤ nI s := by simp [abv]
theorem cntB_mono {p q : Nat → Bool} : ∀ (n : Nat), (∀ k, k < n → q k = true → p k = true) → cntB q n ≤ cntB p n := by
  intro n
  induction n with
  | zero => intro _; exact Nat.le_refl 0
  | succ n ih =>
    intro h
    have i1 := ih (fun k hk => h k (by omega))
    have i2 := h n (Nat.lt_succ_self n)
    show cntB q n + (if q n then 1 else 0) ≤ cntB p n + (if p n then 1 else 0)
    cases hq : q n with
    | false => rw [if_neg (by decide)]; omega
    | true => rw [i2 hq]; omega
theorem cntB_lt {p q : Nat → Bool} {j : Nat} : ∀ (n : Nat), j < n → (∀ k, k < n → q k = true → p k = true) → p j = true → q j = false → cntB q n < cntB p n := by
  intro n
  induction n with
  | zero => intro h; exact absurd h (Nat.not_lt_zero j)
  | succ n ih =>
    intro hj h hp hq
    show cntB q n + (if q n then 1 else 0) < cntB p n + (if p n then 1 else 0)
    by_cases e : j = n
    · subst e
      have := cntB_mono (p := p) (q := q) j (fun k hk => h k (by omega))
      rw [hp, hq, if_neg (by decide), if_pos rfl]
      omega
    · have i1 := ih (by omega) (fun k hk => h k (by omega)) hp hq
      have i2 := h n (Nat.lt_succ_self n)
      cases hqn : q n with
      | false => rw [if_neg (by decide)]; omega
      | true => rw [i2 hqn]; omega
theorem abv_dec {n s t j : Nat} {R : Sg} (hj : j < n) (hb : gA R 38 j = 1) (ht : t < 2880) (he : gA R 39 j = nI t) (hs : s < 2880) (hst : s < t) : cntB (abv (mvM R s j) t) n < cntB (abv R s) n := by
  have e38 : ∀ k, gA (mvM R s j) 38 k = if k = j then 1 else gA R 38 k := fun _ => rfl
  have e39 : ∀ k, gA (mvM R s j) 39 k = if k = j then nI s else gA R 39 k := fun _ => rfl
  refine cntB_lt n hj (fun k hk q => ?_) (abv_t.mpr ⟨hb, by rw [he]; exact nI_ge hst (by omega)⟩) ?_
  · rw [abv_t, e38, e39] at q
    by_cases z : k = j
    · rw [if_pos z, if_pos z] at q
      exact absurd (nI_le (by omega) (by omega)) q.2
    · rw [if_neg z, if_neg z] at q
      exact abv_t.mpr ⟨q.1, fun c => q.2 (Int32.le_trans c (nI_le (by omega) (by omega)))⟩
  · cases hq : abv (mvM R s j) t j with
    | false => rfl
    | true =>
      rw [abv_t, e39, if_pos rfl] at hq
      exact absurd (nI_le (by omega) (by omega)) hq.2
theorem z_firstToMove {n w x ln s : Nat} {g : Nat → Nat} {r : Nat → Int32} {P0 : Nat → Prop} {C R : Sg} {Q : Sg → Option Nat → Prop} (hT : RT n w x C R) (hU : LU r P0 n C ln g) (hP : ∀ j, j < n → (P0 j ↔ (gA R 38 j = 1 ∧ ¬ gA R 36 j = 0))) (hs : s < 2880) (hx : s % 8 < x) (hN : (∀ k, k < n → ¬ cnd R s k) → Q C none) (hS : ∀ j, bst n r R s j → Q C (some j)) : wX8_firstToMove n C (nI s) Q := by
  obtain ⟨⟨l1, l2, l3⟩, u2, u3, u4, u5⟩ := hU
  have hn : n ≤ 60 := hT.1.1
  have loop : ∀ (k i : Nat), i + k = ln → (∀ i', i' < i → ¬ cnd R s (g i')) → vX8_firstToMove_2 n Q (k + 1) C (nI s) (nI i) := by
    intro k
    induction k with
    | zero =>
      intro i hi h
      have ei : i = ln := by omega
      subst ei
      refine ⟨fun _ => hN (fun k hk q => ?_), fun c => absurd (by rw [l2]; exact Int32.le_refl _) c⟩
      obtain ⟨i', i1, i2⟩ := u4 k hk ((hP k hk).mpr ⟨q.1, q.2.2.1⟩)
      rw [← i2] at q
      exact h i' i1 q
    | succ k ih =>
      intro i hi h
      have hin : vp_in (nI i) 60 := vp_in_nI (by omega) (by decide)
      have hcl : (nI i).toNatClampNeg = i := nI_clamp (by omega)
      have hgi : g i < n := (u3 i (by omega)).1
      have hp := (hP (g i) hgi).mp (u3 i (by omega)).2
      have next : ¬ cnd R s (g i) → vX8_firstToMove_50 n (vX8_firstToMove_2 n Q (k + 1)) Q C (nI s) (nI i) := fun q y ey => by
        rw [ey, nI_1]
        refine ih (i + 1) (by omega) (fun i' hi' => ?_)
        by_cases e : i' = i
        · rw [e]; exact q
        · exact h i' (by omega)
      refine ⟨fun c => absurd c (by rw [l2]; exact nI_ge (by omega) (by omega)), fun _ => ⟨hin, ?_⟩⟩
      rw [hcl, (l3 i (by omega)).1]
      refine z_find hn hT.1.2.2.2.1 (fun q => absurd q (fun q => q.elim (fun q => absurd q (nI_pos (by omega))) (fun q => absurd q (nI_ge hgi (by omega))))) (fun j hj ej => ⟨fun q => absurd q (by simp), fun j3 e3 => ?_⟩)
      have ejk : j = g i := (nI_eq (by omega) (by omega)).mp ej.symm
      have e3' : j3 = g i := by rw [← ejk]; exact (Option.some.inj e3).symm
      subst e3'
      refine ⟨hgi, ?_⟩
      rw [(hT.2.1 (g i) hgi).2.2.2.2.2.2.2.2.2.1]
      refine ⟨fun c => next (fun q => q.2.1 c), fun c => ?_⟩
      refine z_suitsC hT.1 (hT.2.1 (g i) hgi) hs hx hgi (fun hu => ⟨fun q => absurd q (by decide), fun _ => hS (g i) ⟨hgi, ⟨hp.1, c, hp.2, hu⟩, fun k' hk' q e => ?_⟩⟩) (fun hu => ⟨fun _ => next (fun q => hu q.2.2.2), fun q => absurd rfl q⟩)
      obtain ⟨i', i1, i2⟩ := u4 k' hk' ((hP k' hk').mpr ⟨q.1, q.2.2.1⟩)
      rw [← i2] at q e ⊢
      rcases Nat.lt_trichotomy i' i with z | z | z
      · exact absurd q (h i' z)
      · rw [z] at e; exact absurd rfl e
      · exact u2 i i' z i1
  exact ⟨ln + 1, loop ln 0 (by omega) (fun i' q => absurd q (Nat.not_lt_zero i'))⟩
theorem cnd_abv {n s : Nat} {R : Sg} (h : cntB (abv R s) n = 0) : ∀ k, k < n → ¬ cnd R s k := by
  intro k hk q
  have := cntB_lt (p := abv R s) (q := fun _ => false) (j := k) n hk (fun _ _ z => absurd z (by decide)) (abv_t.mpr ⟨q.1, q.2.1⟩) rfl
  omega
theorem z_moveC {i n w x ln : Nat} {g : Nat → Nat} {r : Nat → Int32} {P0 : Nat → Prop} {Q : Sg → Int32 → Prop} (hw : w ≤ 59) (hx8 : x ≤ 8) : ∀ (m c s : Nat) (C R : Sg), Rel i n C R → gI C 1 = nI w → gI C 0 = nI x → s < 2880 → s % 8 < x → cntB (abv R s) n ≤ m → m + c ≤ 60 → LU r P0 n C ln g → (∀ j, j < n → (P0 j ↔ (gA R 38 j = 1 ∧ ¬ gA R 36 j = 0))) → (∀ d C' R', MU n w x r d s C R C' R' → Rel i n C' R' → Q C' (nI (c + d))) → vX8_moveUp_11 n Q (m + 1) C (nI c) (nI s) (nI c) := by
  intro m
  induction m with
  | zero =>
    intro c s C R h i1 i0 hs hx hm hc hU hP hq
    have no := cnd_abv (n := n) (s := s) (R := R) (by omega)
    have stop : Q C (nI c) := hq 0 C R ⟨fun _ => no, rfl, rfl⟩ h
    have hT := Rel_wx h i1 hw i0 hx8
    refine ⟨fun _ => stop, fun _ => z_freeC hT.1 hT.2.2 hs hx (fun hf => ⟨fun _ => stop, fun _ => ?_⟩) (fun hf => ⟨fun _ => stop, fun q => absurd rfl q⟩)⟩
    exact z_firstToMove hT hU hP hs hx (fun _ => ⟨fun _ => stop, fun j q => absurd q (by simp)⟩) (fun j hb => absurd hb.2.1 (no j hb.1))
  | succ m ih =>
    intro c s C R h i1 i0 hs hx hm hc hU hP hq
    have hT := Rel_wx h i1 hw i0 hx8
    refine ⟨fun q => absurd q (by rw [show (60 : Int32) = nI 60 from rfl]; exact nI_ge (by omega) (by decide)), fun _ => z_freeC hT.1 hT.2.2 hs hx (fun hf => ⟨fun q => absurd q (by decide), fun _ => ?_⟩) (fun hf => ⟨fun _ => hq 0 C R ⟨fun q => absurd q hf, rfl, rfl⟩ h, fun q => absurd rfl q⟩)⟩
    refine z_firstToMove hT hU hP hs hx (fun no => ⟨fun _ => hq 0 C R ⟨fun _ => no, rfl, rfl⟩ h, fun j q => absurd q (by simp)⟩) (fun j hb => ⟨fun q => absurd q (by simp), fun j' q => ?_⟩)
    injection q with q
    subst q
    obtain ⟨hj, hcd, -⟩ := id hb
    obtain ⟨t, t1, t2, t3⟩ := (hT.2.1 j hj).2.2.2.2.2.2.2.2.2.2.2.2.2.2.2.2.2.1 hcd.1
    have g10 := (hT.2.1 j hj).2.2.2.2.2.2.2.2.2.1
    have hst : s < t := by
      have := hcd.2.1
      rw [t3, nI_leI (by omega) (by omega)] at this
      omega
    refine ⟨hj, fun y ey => z_release hj t1 (g10.trans t3) ?_⟩
    rw [g10, t3] at ey
    subst ey
    have k1 := Rel_rel1 h hj hcd.1 t1 t3
    refine z_book (w := w) ((Rel_wx k1 i1 hw i0 hx8).2.1 j hj) hj hs ⟨hj, hj, fun M1 e1 y ey z ez => ?_⟩
    have e1 : M1 = mvC C s t j := e1
    subst e1
    rw [ey, ez, nI_1]
    have hR := Rel_move h i1 hw i0 hx8 hj hcd.1 t1 t3 hs hf
    have dec := abv_dec hj hcd.1 t1 t3 hs hst
    refine ih (c + 1) t (mvC C s t j) (mvM R s j) hR i1 i0 t1 t2 (by omega) (by omega) (LU_ag hU rfl rfl rfl) (fun k hk => ?_) (fun d C' R' hd hr => ?_)
    · rw [hP k hk]
      show _ ↔ ((if k = j then 1 else gA R 38 k) = 1 ∧ ¬ gA R 36 k = 0)
      by_cases z : k = j
      · rw [if_pos z, z]; exact ⟨fun q => ⟨rfl, q.2⟩, fun q => ⟨hcd.1, q.2⟩⟩
      · rw [if_neg z]
    · rw [show c + 1 + d = c + (d + 1) by omega]
      exact hq (d + 1) C' R' ⟨hf, j, t, hb, t1, t3, hd⟩ hr
theorem moves_C {i n w x s : Nat} {C R : Sg} {Q : Sg → Int32 → Prop} (h : Rel i n C R) (i1 : gI C 1 = nI w) (hw : w ≤ 59) (i0 : gI C 0 = nI x) (hx8 : x ≤ 8) (hs : s < 2880) (hx : s % 8 < x) (hq : ∀ M d C' R', ag [4] [5, 6, 7, 12] C M → MU n w x (rk M) d s M R C' R' → Rel i n C' R' → Q C' (nI d)) : wX8_moveUp n C (nI s) Q := by
  have hT := Rel_wx h i1 hw i0 hx8
  have hn : n ≤ 60 := hT.1.1
  unfold wX8_moveUp
  refine z_lineUpSooner hn hT.1.2.2.2.1 h.2.2.2.2.2.2.1 (fun M ln g a hU => ?_)
  have er : rk M = rk C := funext (rk_ag a (by decide) (by decide) (by decide))
  rw [← er] at hU
  refine ⟨n + 1, z_moveC hw hx8 n 0 s M R (Rel_line h a) ((a.1 1 (by decide)).trans i1) ((a.1 0 (by decide)).trans i0) hs hx (cntB_le _ n) (by omega) hU (fun j hj => ?_) (fun d C' R' hd hr => ?_)⟩
  · have g := hT.2.1 j hj
    show (gA C 58 j = 1 ∧ ¬ gA C 57 j = 0) ↔ _
    rw [g.2.2.2.2.2.2.2.2.1, g.2.2.2.2.2.2.2.1]
  · rw [Nat.zero_add]
    exact hq M d C' R' a hd hr
theorem z_innerM {n w x s c : Nat} {r : Nat → Int32} {C R : Sg} {K8 : Sg → Int32 → Int32 → Prop} {Q : Sg → Int32 → Prop} (hT : RT n w x C R) (hr : ∀ j, j < n → gA R 43 j = r j) (hs : s < 2880) (hN : (fre n w x R s → ∀ k, k < n → ¬ cnd R s k) → vX9_movesUp_108 K8 Q R (nI c) (nI s) (-1)) (hS : ∀ j, fre n w x R s → bst n r R s j → vX9_movesUp_108 K8 Q R (nI c) (nI s) (nI j)) : ∃ f, vX9_movesUp_18 K8 Q f R (nI c) (nI s) (-1 : Int32) (0 : Int32) := by
  have hn : n ≤ 60 := hT.1.1
  have hc : gI R 30 = nI n := hT.1.2.2.2.2.1
  have end' : ∀ v : Int32, ((v = -1 ∧ ∀ k, k < n → ¬ cnd R s k) ∨ ∃ j, j < n ∧ v = nI j ∧ fre n w x R s ∧ cnd R s j ∧ ∀ k, k < n → cnd R s k → k ≠ j → ahd r j k) → vX9_movesUp_108 K8 Q R (nI c) (nI s) v := fun v hv => by
    rcases hv with ⟨e, hv⟩ | ⟨j, j1, j2, j3, j4, j5⟩
    · rw [e]; exact hN (fun _ => hv)
    · rw [j2]; exact hS j j3 ⟨j1, j4, j5⟩
  have loop : ∀ (k l : Nat) (v : Int32), l + k = n → ((v = -1 ∧ ∀ k, k < l → ¬ cnd R s k) ∨ ∃ j, j < l ∧ v = nI j ∧ fre n w x R s ∧ cnd R s j ∧ ∀ k, k < l → cnd R s k → k ≠ j → ahd r j k) → (0 < l → fre n w x R s) → vX9_movesUp_18 K8 Q (k + 1) R (nI c) (nI s) v (nI l) := by
    intro k
    induction k with
    | zero =>
      intro l v hl h _
      have el : l = n := by omega
      subst el
      exact ⟨fun _ => end' v h, fun c => absurd (by rw [hc]; exact Int32.le_refl _) c⟩
    | succ k ih =>
      intro l v hl h hfl
      have hin : vp_in (nI l) 60 := vp_in_nI (by omega) (by decide)
      have hcl : (nI l).toNatClampNeg = l := nI_clamp (by omega)
      refine ⟨fun c => absurd c (by rw [hc]; exact nI_ge (by omega) (by omega)), fun _ => z_freeM hT.1 hT.2.2 hs (fun hf => ⟨fun q => absurd q (by decide), fun _ => ⟨hin, ?_⟩⟩) (fun hf => ⟨fun _ => ?_, fun q => absurd rfl q⟩)⟩
      · have go : ∀ u, ((u = -1 ∧ ∀ k, k < l + 1 → ¬ cnd R s k) ∨ ∃ j, j < l + 1 ∧ u = nI j ∧ fre n w x R s ∧ cnd R s j ∧ ∀ k, k < l + 1 → cnd R s k → k ≠ j → ahd r j k) → vX9_movesUp_102 K8 (vX9_movesUp_18 K8 Q (k + 1)) Q R (nI c) (nI s) u (nI l) := fun u hu y ey => by
          rw [ey, nI_1]
          exact ih (l + 1) u (by omega) hu (fun _ => hf)
        have skip : ¬ cnd R s l → vX9_movesUp_102 K8 (vX9_movesUp_18 K8 Q (k + 1)) Q R (nI c) (nI s) v (nI l) := fun q => by
          refine go v ?_
          rcases h with ⟨e, h⟩ | ⟨j, j1, j2, j3, j4, j5⟩
          · refine Or.inl ⟨e, fun k hk => ?_⟩
            by_cases z : k = l
            · rw [z]; exact q
            · exact h k (by omega)
          · refine Or.inr ⟨j, by omega, j2, j3, j4, fun k hk q1 q2 => ?_⟩
            by_cases z : k = l
            · rw [z] at q1; exact absurd q1 q
            · exact j5 k (by omega) q1 q2
        rw [hcl]
        refine ⟨fun c => skip (fun q => c q.1), fun c1 => ⟨hin, fun c => skip (fun q => q.2.1 c), fun c2 => ⟨hin, fun c => skip (fun q => q.2.2.1 c), fun c3 => ?_⟩⟩⟩
        refine z_suitsM hT.1 hs (by omega) (fun hu => ⟨fun q => absurd q (by decide), fun _ => ?_⟩) (fun hu => ⟨fun _ => skip (fun q => hu q.2.2.2), fun q => absurd rfl q⟩)
        have hcd : cnd R s l := ⟨c1, c2, c3, hu⟩
        rcases h with ⟨e, h⟩ | ⟨j, j1, j2, j3, j4, j5⟩
        · refine ⟨fun _ => go (nI l) (Or.inr ⟨l, Nat.lt_succ_self l, rfl, hf, hcd, fun k hk q1 q2 => absurd q1 (h k (by omega))⟩), fun q => absurd (by rw [e]; decide) q⟩
        · refine ⟨fun q => absurd q (by rw [j2]; exact nI_pos (by omega)), fun _ => ?_⟩
          rw [j2]
          refine z_isAhead (r := r) (by omega) (by omega) (hr l (by omega)) (hr j (by omega)) (fun q => ⟨fun q => absurd q (by decide), fun _ => go (nI l) (Or.inr ⟨l, Nat.lt_succ_self l, rfl, hf, hcd, fun k hk q1 q2 => ?_⟩)⟩) (fun q => ⟨fun _ => go (nI j) (Or.inr ⟨j, by omega, rfl, j3, j4, fun k hk q1 q2 => ?_⟩), fun q => absurd rfl q⟩)
          · by_cases z : k = j
            · rw [z]; exact q
            · exact ahd_tr q (j5 k (by omega) q1 z)
          · by_cases z : k = l
            · rw [z]
              rcases ahd_tot (r := r) (show l ≠ j by omega) with y | y
              · exact absurd y q
              · exact y
            · exact j5 k (by omega) q1 q2
      · rcases h with ⟨e, -⟩ | ⟨j, j1, j2, j3, -⟩
        · rw [e]; exact hN (fun q => absurd q hf)
        · exact absurd j3 hf
  exact ⟨n + 1, loop n 0 (-1) (by omega) (Or.inl ⟨rfl, fun k hk => absurd hk (Nat.not_lt_zero k)⟩) (fun q => absurd q (Nat.lt_irrefl 0))⟩
theorem z_moveM {i n w x : Nat} {r : Nat → Int32} {Q : Sg → Int32 → Prop} (hw : w ≤ 59) (hx8 : x ≤ 8) : ∀ (d c s : Nat) (C R C' R' R2 : Sg), MU n w x r d s C R C' R' → Rel i n C R → gI C 1 = nI w → gI C 0 = nI x → s < 2880 → ag [0] [22, 23, 43, 44] R R2 → (∀ j, j < n → gA R2 43 j = r j) → (∀ R3, ag [0] [22, 23, 43, 44] R' R3 → Q R3 (nI (c + d))) → vX9_movesUp_8 Q (d + 2) R2 (nI c) (nI s) := by
  intro d
  induction d with
  | zero =>
    intro c s C R C' R' R2 hU h i1 i0 hs a hr hq
    obtain ⟨u1, -, u3⟩ := hU
    subst u3
    have hT := Rel_wx (Rel_agR h a) i1 hw i0 hx8
    refine ⟨fun q => absurd q (nI_pos (by omega)), fun _ => z_innerM hT hr hs (fun _ => ?_) (fun j hf hb => ?_)⟩
    · exact ⟨fun q => absurd q (by decide), fun _ => ⟨fun _ => ⟨fun _ => hq R2 a, fun q => absurd (by decide) q⟩, fun q => absurd (by decide) q⟩⟩
    · exact absurd ((cnd_ag a).mp hb.2.1) (u1 ((fre_ag a).mp hf) j hb.1)
  | succ d ih =>
    intro c s C R C' R' R2 hU h i1 i0 hs a hr hq
    obtain ⟨hf, j, t, hb, t1, t3, hU⟩ := hU
    have hT := Rel_wx (Rel_agR h a) i1 hw i0 hx8
    have hn : n ≤ 60 := hT.1.1
    refine ⟨fun q => absurd q (nI_pos (by omega)), fun _ => z_innerM hT hr hs (fun no => ?_) (fun j' hf' hb' => ?_)⟩
    · exact absurd ((cnd_ag a).mpr hb.2.1) (no ((fre_ag a).mpr hf) j hb.1)
    · have e := bst_u hb ((bst_ag a).mp hb')
      subst e
      have hj := hb.1
      have hin : vp_in (nI j') 60 := vp_in_nI (by omega) (by decide)
      have hcl : (nI j').toNatClampNeg = j' := nI_clamp (by omega)
      refine ⟨fun _ => ⟨hin, fun q => absurd q (nI_pos (by omega)), fun _ => z_books (by omega) ⟨hin, hin, fun M3 e3 y ey => ?_⟩⟩, fun q => absurd (nI_pos' (by omega)) q⟩
      rw [hcl] at e3 ⊢
      have e3 : M3 = mvM R2 s j' := e3
      subst e3
      rw [ey, nI_1, a.2.1 39 (by decide), t3]
      have hR := Rel_move h i1 hw i0 hx8 hj hb.2.1.1 t1 t3 hs hf
      have a' : ag [0] [22, 23, 43, 44] (mvM R s j') (mvM R2 s j') := by
        unfold mvM
        rw [a.2.1 41 (by decide)]
        exact ag_bsA (ag_bsA (ag_bsA a))
      refine ih (c + 1) t (mvC C s t j') (mvM R s j') C' R' (mvM R2 s j') hU hR i1 i0 t1 a' hr (fun R3 h3 => ?_)
      rw [show c + 1 + d = c + (d + 1) by omega]
      exact hq R3 h3
theorem moves_M {i n w x s d : Nat} {M R C' R' : Sg} {Q : Sg → Int32 → Prop} (h : Rel i n M R) (i1 : gI M 1 = nI w) (hw : w ≤ 59) (i0 : gI M 0 = nI x) (hx8 : x ≤ 8) (hs : s < 2880) (hU : MU n w x (rk M) d s M R C' R') (hq : ∀ R3, ag [0] [22, 23, 43, 44] R' R3 → Q R3 (nI d)) : wX9_movesUp R (nI s) Q := by
  have hT := Rel_wx h i1 hw i0 hx8
  unfold wX9_movesUp
  refine z_findRanks hT.1 hT.2.1 h.2.2.2.2.2.2.1 (fun R2 a2 hr => ⟨d + 2, z_moveM hw hx8 d 0 s M R C' R' R2 hU h i1 i0 hs (ag_mono a2 (by simp) (by simp)) hr (fun R3 h3 => ?_)⟩)
  rw [Nat.zero_add]
  exact hq R3 h3
theorem op_cancel {i n : Nat} {C R : Sg} {a : Int32} (h : Rel i n C R) : wX8_cancel n C a (fun C' r => wX9_cancel R a (Nx i n C' r)) := by
  have h0 := Rel_thr (v := 0) h
  obtain ⟨⟨w, x, hB, hL⟩, -⟩ := id h0
  obtain ⟨b1, b2, b3, b4, b5, b6, b7, b8, b9, b10, b11, b12⟩ := id hB
  unfold wX8_cancel
  refine z_find b1 b4 (fun c => ⟨fun _ => ?_, fun j q => absurd q (by simp)⟩) (fun j hj e => ⟨fun q => absurd q (by simp), fun j' q => ?_⟩)
  · intro M1 e1
    subst e1
    exact z_isLearner b1 b5 (fun _ => ⟨fun _ => Nx_same h0, fun q => absurd rfl q⟩) (fun j hj e => absurd c (fun q => q.elim (by rw [e]; exact nI_pos (by omega)) (by rw [e]; exact nI_ge hj (by omega))))
  · injection q with q
    subst q e
    obtain ⟨g1, g2, g3, g4, g5, g6, g7, g8, g9, g10, g11, g12, g13, g14, g15, g16, g17, g18, g19⟩ := hL j hj
    have hin : vp_in (nI j) 60 := vp_in_nI (by omega) (by decide)
    have hcl : (nI j).toNatClampNeg = j := nI_clamp (by omega)
    have start : ∀ Q : Sg → Int32 → Prop, (¬ gA R 38 j = 1 → Q (sI R 0 0) (-1)) → (gA R 38 j = 1 → wX9_movesUp (relM (sI R 0 0) j) (gA R 39 j) Q) → wX9_cancel R (nI j) Q := by
      intro Q q1 q2 M1 e1
      subst e1
      refine z_isLearner b1 b5 (fun c => absurd c (fun q => q.elim (nI_pos (by omega)) (nI_ge hj (by omega)))) (fun _ _ _ => ⟨fun q => absurd q (by decide), fun _ => ⟨hin, ?_⟩⟩)
      rw [hcl]
      exact ⟨fun c1 => ⟨hin, fun y ey => z_waits (by omega) (by rw [ey]; exact q2 c1)⟩, q1⟩
    refine ⟨hj, fun c1 => ⟨hj, fun y ey => ?_⟩, fun c1 => start _ (fun _ => Nx_same h0) (fun q => absurd (g9.trans q) c1)⟩
    rw [g9] at c1
    obtain ⟨s, s1, s2, s3⟩ := g18 c1
    rw [g10, s3] at ey
    subst ey
    have k1 := Rel_rel1 h0 hj c1 s1 s3
    refine z_release hj s1 (g10.trans s3) (moves_C k1 b6 b2 b8 b3 s1 s2 (fun M d C' R' aM hU hR => ?_))
    refine start _ (fun q => absurd c1 q) (fun _ => ?_)
    rw [show gA R 39 j = nI s from s3]
    exact moves_M (Rel_line k1 aM) ((aM.1 1 (by decide)).trans b6) b2 ((aM.1 0 (by decide)).trans b8) b3 s1 hU (fun R3 h3 => ⟨rfl, Rel_mono (Rel_agR hR h3) (Nat.le_succ i)⟩)
theorem op_leave {i n : Nat} {C R : Sg} {a : Int32} (h : Rel i n C R) : wX8_leave n C a (fun C' r => wX9_leave R a (Nx i n C' r)) := by
  have h0 := Rel_thr (v := 0) h
  obtain ⟨⟨w, x, hB, hL⟩, -⟩ := id h0
  obtain ⟨b1, b2, b3, b4, b5, b6, b7, b8, b9, b10, b11, b12⟩ := id hB
  unfold wX8_leave
  refine z_find b1 b4 (fun c => ⟨fun _ => ?_, fun j q => absurd q (by simp)⟩) (fun j hj e => ⟨fun q => absurd q (by simp), fun j' q => ?_⟩)
  · intro M1 e1
    subst e1
    exact z_isLearner b1 b5 (fun _ => ⟨fun _ => Nx_same h0, fun q => absurd rfl q⟩) (fun j hj e => absurd c (fun q => q.elim (by rw [e]; exact nI_pos (by omega)) (by rw [e]; exact nI_ge hj (by omega))))
  · injection q with q
    subst q e
    obtain ⟨g1, g2, g3, g4, g5, g6, g7, g8, g9, g10, g11, g12, g13, g14, g15, g16, ⟨st, st1, st2⟩, g18, g19⟩ := hL j hj
    have hin : vp_in (nI j) 60 := vp_in_nI (by omega) (by decide)
    have hcl : (nI j).toNatClampNeg = j := nI_clamp (by omega)
    have start : ∀ Q : Sg → Int32 → Prop, (1 < st → Q (sI R 0 0) 0) → (st ≤ 1 → (gA R 39 j < 0 → Q (sA (sA (sI R 0 0) 38 j 3) 39 j (-1)) 1) ∧ (¬ gA R 39 j < 0 → wX9_movesUp (sA (sA (sI R 0 0) 38 j 3) 39 j (-1)) (gA R 39 j) (fun M_7 r_8 => Q M_7 1))) → wX9_leave R (nI j) Q := by
      intro Q q1 q2 M1 e1
      subst e1
      refine z_isLearner b1 b5 (fun c => absurd c (fun q => q.elim (nI_pos (by omega)) (nI_ge hj (by omega)))) (fun _ _ _ => ⟨fun q => absurd q (by decide), fun _ => ⟨hin, ?_⟩⟩)
      rw [hcl, st2, show (1 : Int32) = nI 1 from rfl, nI_leI (by omega) (by omega)]
      refine ⟨fun c1 => ⟨hin, fun y ey => ⟨hin, fun M5 e5 => ⟨hin, fun M6 e6 => ?_⟩⟩⟩, fun c1 => q1 (by omega)⟩
      subst e5 e6 ey
      exact q2 c1
    have e8 : gA C 58 j = nI st := g9.trans st2
    refine ⟨hj, ?_⟩
    rw [e8]
    have w0 : st = 0 → vX8_leave_27 n (fun C' r => wX9_leave R (nI j) (Nx i n C' r)) C j := fun z => by
      subst z
      have hn1 : ¬ gA (sI R 0 0) 38 j = 1 := by rw [st2]; decide
      have e9 : gA (sI R 0 0) 39 j = -1 := g19 hn1
      refine ⟨hj, fun y ey => ⟨hj, fun _ => ⟨hj, fun M1 e1 => ?_⟩, fun q => absurd (e8.symm.trans q) (by decide)⟩⟩
      rw [g10, e9] at ey
      subst ey e1
      refine ⟨fun _ => start _ (fun q => absurd q (by omega)) (fun _ => ⟨fun _ => ⟨rfl, ?_⟩, fun q => absurd (by rw [show gA R 39 j = -1 from e9]; decide) q⟩), fun q => absurd rfl q⟩
      have k := Rel_state (v := 3) h0 hj hn1 (by omega) (by omega)
      have e : sA (sA (sI R 0 0) 38 j 3) 39 j (-1) = sA (sI R 0 0) 38 j 3 := by
        have := sA_id (sA (sI R 0 0) 38 j 3) 39 j
        rw [show gA (sA (sI R 0 0) 38 j 3) 39 j = -1 from e9] at this
        exact this
      rw [e]
      exact Rel_mono k (Nat.le_succ i)
    have w1 : st = 1 → vX8_leave_27 n (fun C' r => wX9_leave R (nI j) (Nx i n C' r)) C j := fun z => by
      subst z
      have hb : gA (sI R 0 0) 38 j = 1 := st2
      obtain ⟨s, s1, s2, s3⟩ := g18 hb
      refine ⟨hj, fun y ey => ⟨hj, fun q => absurd e8 q, fun _ => z_release hj s1 (g10.trans s3) ⟨hj, fun M1 e1 => ?_⟩⟩⟩
      rw [g10, s3] at ey
      subst ey e1
      have k1 := Rel_rel1 h0 hj hb s1 s3
      have k2 := Rel_state (v := 3) k1 hj (by rw [relM_38, if_pos rfl]; decide) (by omega) (by omega)
      have k2 : Rel i n (sA (relC C s j) 58 j 3) (sA (sA (sI R 0 0) 38 j 3) 39 j (-1)) := by rw [← st3_relM]; exact k2
      refine ⟨fun q => absurd q (z_m1 s1), fun _ => moves_C k2 b6 b2 b8 b3 s1 s2 (fun M d C' R' aM hU hR => ?_)⟩
      refine start _ (fun q => absurd q (by omega)) (fun _ => ⟨fun q => absurd q (by rw [show gA R 39 j = nI s from s3]; exact nI_pos (by omega)), fun _ => ?_⟩)
      rw [show gA R 39 j = nI s from s3]
      exact moves_M (Rel_line k2 aM) ((aM.1 1 (by decide)).trans b6) b2 ((aM.1 0 (by decide)).trans b8) b3 s1 hU (fun R3 h3 => ⟨rfl, Rel_mono (Rel_agR hR h3) (Nat.le_succ i)⟩)
    refine ⟨fun c => w0 ?_, fun c => ⟨hj, fun c2 => w1 ?_, fun c2 => start _ (fun _ => Nx_same h0) (fun q => ?_)⟩⟩
    · rw [show (0 : Int32) = nI 0 from rfl, nI_eq (by omega) (by omega)] at c; exact c
    · rw [show (1 : Int32) = nI 1 from rfl, nI_eq (by omega) (by omega)] at c2; exact c2
    · exfalso
      rcases Nat.lt_or_ge st 1 with z | z
      · exact c (by rw [show st = 0 by omega]; rfl)
      · exact c2 (by rw [show st = 1 by omega]; rfl)
