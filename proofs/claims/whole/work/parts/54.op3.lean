/-! counts -/
def cntB (p : Nat → Bool) : Nat → Nat
  | 0 => 0
  | k + 1 => cntB p k + (if p k then 1 else 0)
theorem cntB_congr {p q : Nat → Bool} {n : Nat} (h : ∀ j, j < n → p j = q j) : cntB p n = cntB q n := by
  induction n with
  | zero => rfl
  | succ n ih => show cntB p n + _ = cntB q n + _; rw [ih (fun j hj => h j (by omega)), h n (Nat.lt_succ_self n)]
theorem cntB_le (p : Nat → Bool) (n : Nat) : cntB p n ≤ n := by
  induction n with
  | zero => exact Nat.le_refl 0
  | succ n ih => show cntB p n + _ ≤ n + 1; split <;> omega
theorem cntB_t {p : Nat → Bool} {k : Nat} (h : p k = true) : nI (cntB p k) + 1 = nI (cntB p (k + 1)) := by
  rw [nI_1]; show _ = nI (cntB p k + _); rw [h]; rfl
theorem cntB_f {p : Nat → Bool} {k : Nat} (h : p k = false) : nI (cntB p k) = nI (cntB p (k + 1)) := by
  show _ = nI (cntB p k + _); rw [h]; rfl
theorem z_countC {n : Nat} {M : Sg} {v : Int32} {Q : Sg → Int32 → Prop} (hn : n ≤ 60) (hc : gI M 23 = nI n) (hq : Q M (nI (cntB (fun j => decide (gA M 58 j = v)) n))) : wX8_countOfState n M v Q := by
  have loop : ∀ (k l : Nat), l + k = n → ∃ f, vX8_countOfState_4 n Q f M v (nI (cntB (fun j => decide (gA M 58 j = v)) l)) (nI l) := by
    intro k
    induction k with
    | zero =>
      intro l hl
      refine ⟨1, fun _ => ?_, fun c => absurd (by rw [hc]; exact nI_le (by omega) (by omega)) c⟩
      rw [show l = n by omega]; exact hq
    | succ k ih =>
      intro l hl
      obtain ⟨f, hf⟩ := ih (l + 1) (by omega)
      have hin : vp_in (nI l) 60 := vp_in_nI (by omega) (by decide)
      have hcl : (nI l).toNatClampNeg = l := nI_clamp (by omega)
      refine ⟨f + 1, fun c => absurd c (by rw [hc]; exact nI_ge (by omega) (by omega)), fun _ => ⟨⟨hin, by rw [hcl]; omega⟩, by rw [hcl]; omega, ?_⟩⟩
      rw [hcl]
      refine ⟨fun c => ?_, fun c y ey => ?_⟩
      · intro z ez
        rw [ez, nI_1, cntB_f (by simp [c])]
        exact hf
      · intro z ez
        rw [ez, ey, cntB_t (by simp [c]), nI_1]
        exact hf
  exact loop n 0 (by omega)
theorem z_countM {n : Nat} {M : Sg} {v : Int32} {Q : Sg → Int32 → Prop} (hn : n ≤ 60) (hc : gI M 30 = nI n) (hq : Q M (nI (cntB (fun j => decide (gA M 38 j = v)) n))) : wX9_learnersThat M v Q := by
  have loop : ∀ (k l : Nat), l + k = n → ∃ f, vX9_learnersThat_4 Q f M v (nI (cntB (fun j => decide (gA M 38 j = v)) l)) (nI l) := by
    intro k
    induction k with
    | zero =>
      intro l hl
      refine ⟨1, fun _ => ?_, fun c => absurd (by rw [hc]; exact nI_le (by omega) (by omega)) c⟩
      rw [show l = n by omega]; exact hq
    | succ k ih =>
      intro l hl
      obtain ⟨f, hf⟩ := ih (l + 1) (by omega)
      have hin : vp_in (nI l) 60 := vp_in_nI (by omega) (by decide)
      have hcl : (nI l).toNatClampNeg = l := nI_clamp (by omega)
      refine ⟨f + 1, fun c => absurd c (by rw [hc]; exact nI_ge (by omega) (by omega)), fun _ => ⟨hin, ?_⟩⟩
      rw [hcl]
      refine ⟨fun c y ey z ez => ?_, fun c y ey z ez => ?_⟩
      · rw [ez, ey, nI_1, show nI (cntB (fun j => decide (gA M 38 j = v)) l) + 0 = nI (cntB (fun j => decide (gA M 38 j = v)) (l + 1)) by rw [show (0 : Int32) = nI 0 from rfl, nI_add]; exact cntB_f (by simp [c])]
        exact hf
      · rw [ez, ey, cntB_t (by simp [c]), nI_1]
        exact hf
  exact loop n 0 (by omega)
theorem op_count {i n : Nat} {C R : Sg} {a : Int32} (h : Rel i n C R) : wX8_count n C a (fun C' r => wX9_count R a (Nx i n C' r)) := by
  have h0 := Rel_thr (v := 0) h
  obtain ⟨⟨w, x, hB, hL⟩, h3, h4, ⟨m, h5⟩, h6, h7, h8, h9⟩ := id h0
  obtain ⟨b1, b2, b3, b4, b5, b6, b7, b8, b9, b10, b11, b12⟩ := id hB
  obtain ⟨tf, pf, p1, p2, p3, p4, p5⟩ := h4
  obtain ⟨t, t1, t2, t3, t4⟩ := h7
  obtain ⟨lm, hd, st, x1, x2, x3, x4, x5, x6, x7, x8⟩ := h8
  have hs : ∀ v : Int32, cntB (fun j => decide (gA C 58 j = v)) n = cntB (fun j => decide (gA (sI R 0 0) 38 j = v)) n := fun v => cntB_congr (fun j hj => by rw [(hL j hj).2.2.2.2.2.2.2.2.1])
  have hm : Rel (i + 1) n C (sI R 0 0) := Rel_mono h0 (Nat.le_succ i)
  exact ⟨fun e => by subst e; intro M1 e1; subst e1; exact ⟨fun _ => ⟨b9.trans b8.symm, hm⟩, fun q => absurd q (by decide), fun q => absurd q (by decide), fun q => absurd q (by decide), fun q => absurd q (by decide), fun q => absurd q (by decide), fun q => absurd q (by decide), fun q => absurd q (by decide), fun q => absurd q (by decide), fun q => absurd q (by decide), fun q => absurd q (by decide), fun q => absurd rfl q.1⟩, fun e => by subst e; intro M1 e1; subst e1; exact ⟨fun q => absurd q (by decide), fun _ => ⟨b5.trans b4.symm, hm⟩, fun q => absurd q (by decide), fun q => absurd q (by decide), fun q => absurd q (by decide), fun q => absurd q (by decide), fun q => absurd q (by decide), fun q => absurd q (by decide), fun q => absurd q (by decide), fun q => absurd q (by decide), fun q => absurd q (by decide), fun q => absurd rfl q.2.1⟩, fun e => by subst e; intro M1 e1; subst e1; exact ⟨fun q => absurd q (by decide), fun q => absurd q (by decide), fun _ => ⟨b7.trans b6.symm, hm⟩, fun q => absurd q (by decide), fun q => absurd q (by decide), fun q => absurd q (by decide), fun q => absurd q (by decide), fun q => absurd q (by decide), fun q => absurd q (by decide), fun q => absurd q (by decide), fun q => absurd q (by decide), fun q => absurd rfl q.2.2.1⟩, fun e => by subst e; refine z_countC b1 b4 ?_; intro M1 e1; subst e1; exact ⟨fun q => absurd q (by decide), fun q => absurd q (by decide), fun q => absurd q (by decide), fun _ => z_countM b1 b5 ⟨by rw [← hs]; rfl, hm⟩, fun q => absurd q (by decide), fun q => absurd q (by decide), fun q => absurd q (by decide), fun q => absurd q (by decide), fun q => absurd q (by decide), fun q => absurd q (by decide), fun q => absurd q (by decide), fun q => absurd rfl q.2.2.2.1⟩, fun e => by subst e; refine z_countC b1 b4 ?_; intro M1 e1; subst e1; exact ⟨fun q => absurd q (by decide), fun q => absurd q (by decide), fun q => absurd q (by decide), fun q => absurd q (by decide), fun _ => z_countM b1 b5 ⟨by rw [← hs]; rfl, hm⟩, fun q => absurd q (by decide), fun q => absurd q (by decide), fun q => absurd q (by decide), fun q => absurd q (by decide), fun q => absurd q (by decide), fun q => absurd q (by decide), fun q => absurd rfl q.2.2.2.2.1⟩, fun e => by subst e; refine z_countC b1 b4 ?_; intro M1 e1; subst e1; exact ⟨fun q => absurd q (by decide), fun q => absurd q (by decide), fun q => absurd q (by decide), fun q => absurd q (by decide), fun q => absurd q (by decide), fun _ => z_countM b1 b5 ⟨by rw [← hs]; rfl, hm⟩, fun q => absurd q (by decide), fun q => absurd q (by decide), fun q => absurd q (by decide), fun q => absurd q (by decide), fun q => absurd q (by decide), fun q => absurd rfl q.2.2.2.2.2.1⟩, fun e => by subst e; refine z_countC b1 b4 ?_; intro M1 e1; subst e1; exact ⟨fun q => absurd q (by decide), fun q => absurd q (by decide), fun q => absurd q (by decide), fun q => absurd q (by decide), fun q => absurd q (by decide), fun q => absurd q (by decide), fun _ => z_countM b1 b5 ⟨by rw [← hs]; rfl, hm⟩, fun q => absurd q (by decide), fun q => absurd q (by decide), fun q => absurd q (by decide), fun q => absurd q (by decide), fun q => absurd rfl q.2.2.2.2.2.2.1⟩, fun e => by subst e; intro M1 e1; subst e1; exact ⟨fun q => absurd q (by decide), fun q => absurd q (by decide), fun q => absurd q (by decide), fun q => absurd q (by decide), fun q => absurd q (by decide), fun q => absurd q (by decide), fun q => absurd q (by decide), fun _ => ⟨by rw [x4]; exact vp_in_nI (by omega) (by decide), by rw [x4, nI_clamp (by omega)]; exact x5.trans x3.symm, hm⟩, fun q => absurd q (by decide), fun q => absurd q (by decide), fun q => absurd q (by decide), fun q => absurd rfl q.2.2.2.2.2.2.2.1⟩, fun e => by subst e; intro M1 e1; subst e1; exact ⟨fun q => absurd q (by decide), fun q => absurd q (by decide), fun q => absurd q (by decide), fun q => absurd q (by decide), fun q => absurd q (by decide), fun q => absurd q (by decide), fun q => absurd q (by decide), fun q => absurd q (by decide), fun _ => ⟨t3.trans t2.symm, hm⟩, fun q => absurd q (by decide), fun q => absurd q (by decide), fun q => absurd rfl q.2.2.2.2.2.2.2.2.1⟩, fun e => by subst e; intro M1 e1; subst e1; exact ⟨fun q => absurd q (by decide), fun q => absurd q (by decide), fun q => absurd q (by decide), fun q => absurd q (by decide), fun q => absurd q (by decide), fun q => absurd q (by decide), fun q => absurd q (by decide), fun q => absurd q (by decide), fun q => absurd q (by decide), fun _ => ⟨h5.2.2.1.trans h5.2.1.symm, hm⟩, fun q => absurd q (by decide), fun q => absurd rfl q.2.2.2.2.2.2.2.2.2.1⟩, fun e => by subst e; intro M1 e1; subst e1; exact ⟨fun q => absurd q (by decide), fun q => absurd q (by decide), fun q => absurd q (by decide), fun q => absurd q (by decide), fun q => absurd q (by decide), fun q => absurd q (by decide), fun q => absurd q (by decide), fun q => absurd q (by decide), fun q => absurd q (by decide), fun q => absurd q (by decide), fun _ => ⟨p4.trans p3.symm, hm⟩, fun q => absurd rfl q.2.2.2.2.2.2.2.2.2.2⟩, fun q => by intro M1 e1; subst e1; exact ⟨fun e => absurd e (q.1), fun e => absurd e (q.2.1), fun e => absurd e (q.2.2.1), fun e => absurd e (q.2.2.2.1), fun e => absurd e (q.2.2.2.2.1), fun e => absurd e (q.2.2.2.2.2.1), fun e => absurd e (q.2.2.2.2.2.2.1), fun e => absurd e (q.2.2.2.2.2.2.2.1), fun e => absurd e (q.2.2.2.2.2.2.2.2.1), fun e => absurd e (q.2.2.2.2.2.2.2.2.2.1), fun e => absurd e (q.2.2.2.2.2.2.2.2.2.2), fun _ => ⟨rfl, hm⟩⟩⟩
theorem z_rem8 {s : Nat} (hs : s < 2880) : nI s - nI s / (8 : Int32) * (8 : Int32) = nI (s % 8) := pk_rem (by omega) (by decide) (by decide)
theorem z_div48 {s : Nat} (hs : s < 2880) : nI s / (48 : Int32) = nI (s / 48) := pk_div (by omega) (by decide) (by decide)
def bkd (R : Sg) (e j : Nat) : Bool := decide (gA R 38 j = 1) && decide (gA R 39 j - gA R 39 j / (8 : Int32) * (8 : Int32) = nI e)
theorem z_bookedWith {n w x e : Nat} {C R : Sg} {Q : Sg → Int32 → Prop} (hB : RelB n w x C R) (hL : RelL n x C R) (hq : Q C (nI (cntB (bkd R e) n))) : wX8_countBookedWith n C (nI e) Q := by
  have hn : n ≤ 60 := hB.1
  have hc : gI C 23 = nI n := hB.2.2.2.1
  have loop : ∀ (k l : Nat), l + k = n → ∃ f, vX8_countBookedWith_4 n Q f C (nI e) (nI (cntB (bkd R e) l)) (nI l) := by
    intro k
    induction k with
    | zero =>
      intro l hl
      refine ⟨1, fun _ => ?_, fun c => absurd (by rw [hc]; exact nI_le (by omega) (by omega)) c⟩
      rw [show l = n by omega]; exact hq
    | succ k ih =>
      intro l hl
      obtain ⟨f, hf⟩ := ih (l + 1) (by omega)
      have hin : vp_in (nI l) 60 := vp_in_nI (by omega) (by decide)
      have hcl : (nI l).toNatClampNeg = l := nI_clamp (by omega)
      obtain ⟨g1, g2, g3, g4, g5, g6, g7, g8, g9, g10, -⟩ := hL l (by omega)
      refine ⟨f + 1, fun c => absurd c (by rw [hc]; exact nI_ge (by omega) (by omega)), fun _ => ⟨⟨hin, by rw [hcl]; omega⟩, by rw [hcl]; omega, ?_⟩⟩
      rw [hcl, g9, g10]
      refine ⟨fun c => ?_, fun c => ⟨⟨hin, by omega⟩, by omega, ?_⟩⟩
      · intro z ez
        rw [ez, nI_1, cntB_f (by simp [bkd, c])]
        exact hf
      · refine ⟨fun c2 => ?_, fun c2 y ey => ?_⟩
        · intro z ez
          rw [ez, nI_1, cntB_f (by simp only [bkd]; rw [decide_eq_false c2, Bool.and_false])]
          exact hf
        · intro z ez
          rw [ez, ey, cntB_t (by simp only [bkd]; rw [decide_eq_true c2, decide_eq_true c]; rfl), nI_1]
          exact hf
  exact loop n 0 (by omega)
theorem z_loadM {n w x e : Nat} {C R : Sg} {a2 : Int32} {Q : Sg → Int32 → Prop} (hB : RelB n w x C R) (he : e < x) (h0 : a2 = 0 → Q R (gA R 28 e)) (h1 : a2 = 1 → Q R (gA R 29 e)) (h2 : a2 = 2 → Q R (nI (cntB (bkd R e) n))) (h3 : ¬ a2 = 0 → ¬ a2 = 1 → ¬ a2 = 2 → Q R (-1)) : ∃ f, vX9_load_24 Q f R (nI e) a2 (0 : Int32) (0 : Int32) := by
  have hn : n ≤ 60 := hB.1
  have hx : x ≤ 8 := hB.2.2.1
  have hc : gI R 30 = nI n := hB.2.2.2.2.1
  have loop : ∀ (k l : Nat), l + k = n → ∃ f, vX9_load_24 Q f R (nI e) a2 (nI (cntB (bkd R e) l)) (nI l) := by
    intro k
    induction k with
    | zero =>
      intro l hl
      have hin8 : vp_in (nI e) 8 := vp_in_nI (by omega) (by decide)
      have hce : (nI e).toNatClampNeg = e := nI_clamp (by omega)
      refine ⟨1, fun _ => ⟨fun c0 => ⟨fun c1 => ⟨fun c2 => h3 c0 c1 c2, fun c2 => ?_⟩, fun c1 => ⟨hin8, by rw [hce]; exact h1 c1⟩⟩, fun c0 => ⟨hin8, by rw [hce]; exact h0 c0⟩⟩, fun c => absurd (by rw [hc]; exact nI_le (by omega) (by omega)) c⟩
      rw [show l = n by omega]; exact h2 c2
    | succ k ih =>
      intro l hl
      obtain ⟨f, hf⟩ := ih (l + 1) (by omega)
      have hin : vp_in (nI l) 60 := vp_in_nI (by omega) (by decide)
      have hcl : (nI l).toNatClampNeg = l := nI_clamp (by omega)
      have skip : bkd R e l = false → vX9_load_63 (vX9_load_24 Q f) Q R (nI e) a2 (nI l) (nI (cntB (bkd R e) l)) := fun hb y ey z ez => by
        rw [ez, ey, nI_1, show nI (cntB (bkd R e) l) + 0 = nI (cntB (bkd R e) (l + 1)) by rw [show (0 : Int32) = nI 0 from rfl, nI_add]; exact cntB_f hb]
        exact hf
      refine ⟨f + 1, fun c => absurd c (by rw [hc]; exact nI_ge (by omega) (by omega)), fun _ => ⟨hin, ?_⟩⟩
      rw [hcl]
      refine ⟨fun c => skip (by simp [bkd, c]), fun c => ⟨hin, fun c2 => skip (by simp only [bkd]; rw [decide_eq_false c2, Bool.and_false]), fun c2 y ey z ez => ?_⟩⟩
      rw [ez, ey, cntB_t (by simp only [bkd]; rw [decide_eq_true c2, decide_eq_true c]; rfl), nI_1]
      exact hf
  exact loop n 0 (by omega)
theorem op_load {i n : Nat} {C R : Sg} {a b : Int32} (h : Rel i n C R) : wX8_load n C a b (fun C' r => wX9_load R a b (Nx i n C' r)) := by
  have h0 := Rel_thr (v := 0) h
  obtain ⟨⟨w, x, hB, hL⟩, h3, h4, -⟩ := id h0
  have b8 := hB.2.2.2.2.2.2.2.1
  have b9 := hB.2.2.2.2.2.2.2.2.1
  have b3 := hB.2.2.1
  have hm : Rel (i + 1) n C (sI R 0 0) := Rel_mono h0 (Nat.le_succ i)
  obtain ⟨tf, pf, p1, p2, p3, p4, p5⟩ := h4
  unfold wX8_load
  refine z_isExaminer b8 b3 (fun ce => ⟨fun q => absurd rfl q, fun _ => ?_⟩) (fun e hx ee => ⟨fun _ => ?_, fun q => absurd q (by decide)⟩)
  · intro M1 e1
    subst e1
    exact ⟨fun _ => Nx_same h0, fun c1 => ⟨fun c2 => absurd (by rw [← b9]; exact c2) (z_ltN ce c1), fun _ => Nx_same h0⟩⟩
  subst ee
  have hin8 : vp_in (nI e) 8 := vp_in_nI (by omega) (by decide)
  have hce : (nI e).toNatClampNeg = e := nI_clamp (by omega)
  have start : ∀ Q : Sg → Int32 → Prop, (b = 0 → Q (sI R 0 0) (gA (sI R 0 0) 28 e)) → (b = 1 → Q (sI R 0 0) (gA (sI R 0 0) 29 e)) → (b = 2 → Q (sI R 0 0) (nI (cntB (bkd (sI R 0 0) e) n))) → (¬ b = 0 → ¬ b = 1 → ¬ b = 2 → Q (sI R 0 0) (-1)) → wX9_load R (nI e) b Q := by
    intro Q q0 q1 q2 q3 M1 e1
    subst e1
    exact ⟨fun c => absurd c (nI_pos (by omega)), fun _ => ⟨fun _ => z_loadM hB hx q0 q1 q2 q3, fun c => absurd (by rw [b9]; exact nI_lt hx (by omega)) c⟩⟩
  have ask : ∀ Q : Sg → Int32 → Prop, Q C 1 → wX0_isExaminer n C (nI e) Q := fun Q q => z_isExaminer b8 b3 (fun c => absurd c (fun z => z.elim (fun z => nI_pos (by omega) z) (fun z => nI_ge hx (by omega) z))) (fun _ _ _ => q)
  refine ⟨fun c => ?_, fun c => ?_, fun c => ?_, fun c => ?_⟩
  · refine ask _ ⟨fun q => absurd q (by decide), fun _ => ⟨hin8, ?_⟩⟩
    rw [hce]
    exact start _ (fun _ => ⟨(p1 e (by omega)).2.1.trans (p1 e (by omega)).1.symm, hm⟩) (fun z => absurd (c.symm.trans z) (by decide)) (fun z => absurd (c.symm.trans z) (by decide)) (fun z => absurd c z)
  · refine ask _ ⟨fun q => absurd q (by decide), fun _ => ⟨hin8, ?_⟩⟩
    rw [hce]
    exact start _ (fun z => absurd (c.symm.trans z) (by decide)) (fun _ => ⟨(p1 e (by omega)).2.2.2.1.trans (p1 e (by omega)).2.2.1.symm, hm⟩) (fun z => absurd (c.symm.trans z) (by decide)) (fun _ z => absurd c z)
  · refine z_bookedWith hB hL ?_
    exact start _ (fun z => absurd (c.symm.trans z) (by decide)) (fun z => absurd (c.symm.trans z) (by decide)) (fun _ => ⟨rfl, hm⟩) (fun _ _ z => absurd c z)
  · exact start _ (fun z => absurd z c.1) (fun z => absurd z c.2.1) (fun z => absurd z c.2.2) (fun _ _ _ => ⟨rfl, hm⟩)
