/-! differs -/
def exN (f : Nat → Nat) (e : Nat) : Nat → Nat := fun k => if k = e then 0 else f k
theorem exN_sum (f : Nat → Nat) (e : Nat) : ∀ k, sumN (exN f e) k + (if e < k then f e else 0) = sumN f k := by
  intro k
  induction k with
  | zero => rfl
  | succ k ih =>
    show sumN (exN f e) k + (if k = e then 0 else f k) + _ = sumN f k + f k
    rw [← ih]
    by_cases z : k = e
    · subst z
      rw [if_pos rfl, if_neg (Nat.lt_irrefl k), if_pos (Nat.lt_succ_self k)]
    · rw [if_neg z]
      by_cases y : e < k
      · rw [if_pos y, if_pos (by omega)]; omega
      · rw [if_neg y, if_neg (by omega)]; omega
theorem sumN_le {f g : Nat → Nat} : ∀ (k : Nat), (∀ j, j < k → f j ≤ g j) → sumN f k ≤ sumN g k := by
  intro k
  induction k with
  | zero => intro _; exact Nat.le_refl 0
  | succ k ih =>
    intro h
    exact Nat.add_le_add (ih (fun j hj => h j (by omega))) (h k (Nat.lt_succ_self k))
theorem sumN_tail {f : Nat → Nat} {x : Nat} : ∀ (d : Nat), (∀ k, x ≤ k → k < x + d → f k = 0) → sumN f (x + d) = sumN f x := by
  intro d
  induction d with
  | zero => intro _; rfl
  | succ d ih =>
    intro h
    show sumN f (x + d) + f (x + d) = _
    rw [ih (fun k h1 h2 => h k h1 (by omega)), h (x + d) (by omega) (by omega)]
    rfl
theorem sumN_one (f : Nat → Nat) {e k : Nat} (h : e < k) : f e ≤ sumN f k := by
  have := exN_sum f e k
  rw [if_pos h] at this
  omega
/-- the answer -/
def dfa (g l : Int64) : Int32 := if l < g then 1 else if g < -l then -1 else 0
theorem z_dfa {g l : Int64} {P : Int32 → Prop} (h : P (dfa g l)) : (lg_cmp g l ≤ 0 → (0 ≤ lg_cmp g (-l) → P 0) ∧ (¬ 0 ≤ lg_cmp g (-l) → P (-1))) ∧ (¬ lg_cmp g l ≤ 0 → P 1) := by
  unfold dfa at h
  rw [lg_cmp_le, lg_cmp_ge]
  refine ⟨fun c1 => ?_, fun c1 => ?_⟩
  · rw [if_neg (Int64.not_lt.mpr c1)] at h
    refine ⟨fun c2 => ?_, fun c2 => ?_⟩
    · rw [if_neg (Int64.not_lt.mpr c2)] at h; exact h
    · rw [if_pos (Int64.not_le.mp c2)] at h; exact h
  · rw [if_pos (Int64.not_le.mp c1)] at h; exact h
theorem dfa_0 : dfa 0 0 = 0 := by decide
def gapv (t p m q : Nat) : Int64 := (lN p * lN m - lN q * lN t) * 100
theorem z_difC {n x e bar i : Nat} {C R : Sg} {Q : Sg → Int32 → Prop} {tf pf : Nat → Nat} (hi : i ≤ 100000) (hx : gI C 0 = nI x) (hx8 : x ≤ 8) (he : e < x) (hb : bar ≤ 100) (p1 : ∀ e, e < 8 → gA C 3 e = nI (tf e) ∧ gA R 28 e = nI (tf e) ∧ gA C 4 e = nI (pf e) ∧ gA R 29 e = nI (pf e) ∧ pf e ≤ tf e) (p2 : sumN tf 8 ≤ i) (p3 : gI C 2 = nI (sumN tf 8)) (p5 : gI C 3 = nI (sumN pf 8)) (hq : Q C (dfa (gapv (tf e) (pf e) (sumN (exN tf e) 8) (sumN (exN pf e) 8)) (lN (bar * tf e * sumN (exN tf e) 8)))) : wX0_difference n C (nI e) (nI bar) Q := by
  have ask : ∀ Q : Sg → Int32 → Prop, Q C 1 → wX0_isExaminer n C (nI e) Q := fun Q q => z_isExaminer hx hx8 (fun c => absurd c (fun z => z.elim (nI_pos (by omega)) (nI_ge he (by omega)))) (fun _ _ _ => q)
  have hin8 : vp_in (nI e) 8 := vp_in_nI (by omega) (by decide)
  have hce : (nI e).toNatClampNeg = e := nI_clamp (by omega)
  have he8 : e < 8 := by omega
  obtain ⟨q1, q2, q3, q4, q5⟩ := p1 e he8
  have hT := exN_sum tf e 8
  have hP := exN_sum pf e 8
  rw [if_pos he8] at hT hP
  have hle : sumN pf 8 ≤ sumN tf 8 := sumN_le 8 (fun j hj => (p1 j hj).2.2.2.2)
  unfold wX0_difference wX0_testsOf
  refine ask _ ⟨fun q => absurd q (by decide), fun _ => ⟨hin8, ?_⟩⟩
  rw [hce, q1]
  intro y3 e3 y4 e4
  unfold wX0_passesOf
  refine ask _ ⟨fun q => absurd q (by decide), fun _ => ⟨hin8, ?_⟩⟩
  rw [hce, q3]
  intro y7 e7 y8 e8 y9 e9 y10 e10
  rw [nI_l (by omega)] at e3 e7
  rw [p3, nI_l (by omega), e3, lN_sub (by omega), show sumN tf 8 - tf e = sumN (exN tf e) 8 by omega] at e4
  rw [p5, nI_l (by omega), e7, lN_sub (by omega), show sumN pf 8 - pf e = sumN (exN pf e) 8 by omega] at e8
  rw [nI_l (by omega), e3, e4, lN_mul, lN_mul] at e10
  rw [e7, e4, e8, e3] at e9
  have e9 : y9 = gapv (tf e) (pf e) (sumN (exN tf e) 8) (sumN (exN pf e) 8) := e9
  refine z_dfa (P := fun r => Q C r) ?_
  rw [e9, e10]
  exact hq
theorem z_difM {n w x e bar i : Nat} {C R : Sg} {Q : Sg → Int32 → Prop} {tf pf : Nat → Nat} (hB : RelB n w x C R) (hi : i ≤ 100000) (he : e < x) (hb : bar ≤ 100) (p1 : ∀ e, e < 8 → gA C 3 e = nI (tf e) ∧ gA R 28 e = nI (tf e) ∧ gA C 4 e = nI (pf e) ∧ gA R 29 e = nI (pf e) ∧ pf e ≤ tf e) (p2 : sumN tf 8 ≤ i) (hq : Q R (dfa (gapv (tf e) (pf e) (sumN (exN tf e) 8) (sumN (exN pf e) 8)) (lN (bar * tf e * sumN (exN tf e) 8)))) : ∃ f, vX9_differs_38 Q f R (nI e) (nI bar) 0 0 0 := by
  obtain ⟨b1, b2, b3, b4, b5, b6, b7, b8, b9, b10, b11, b12⟩ := hB
  have he8 : e < 8 := by omega
  obtain ⟨q1, q2, q3, q4, q5⟩ := p1 e he8
  have hT := exN_sum tf e 8
  have hP := exN_sum pf e 8
  rw [if_pos he8] at hT hP
  have hle : sumN pf 8 ≤ sumN tf 8 := sumN_le 8 (fun j hj => (p1 j hj).2.2.2.2)
  have hle2 : sumN (exN pf e) 8 ≤ sumN (exN tf e) 8 := sumN_le 8 (fun j hj => by unfold exN; split; exact Nat.le_refl 0; exact (p1 j hj).2.2.2.2)
  have z0 : ∀ k, x ≤ k → k < 8 → tf k = 0 := fun k h1 h2 => by
    have a1 := (b11 k 0 h1 h2 (by omega)).2
    rw [(p1 k h2).2.1] at a1
    exact (nI_eq (b := 0) (by have := sumN_one tf h2; omega) (by decide)).mp a1
  have eT : sumN (exN tf e) 8 = sumN (exN tf e) x := by
    have := sumN_tail (f := exN tf e) (x := x) (8 - x) (fun k h1 h2 => by unfold exN; rw [z0 k h1 (by omega)]; split <;> rfl)
    rw [show x + (8 - x) = 8 by omega] at this
    exact this
  have eP : sumN (exN pf e) 8 = sumN (exN pf e) x := by
    have := sumN_tail (f := exN pf e) (x := x) (8 - x) (fun k h1 h2 => by unfold exN; have := (p1 k (by omega)).2.2.2.2; rw [z0 k h1 (by omega)] at this; rw [Nat.le_zero.mp this]; split <;> rfl)
    rw [show x + (8 - x) = 8 by omega] at this
    exact this
  have hin8 : vp_in (nI e) 8 := vp_in_nI (by omega) (by decide)
  have hce : (nI e).toNatClampNeg = e := nI_clamp (by omega)
  have htb : tf e ≤ 100000 := by have := sumN_one tf he8; omega
  have hbt : bar * tf e < 2 ^ 31 := Nat.lt_of_le_of_lt (Nat.mul_le_mul hb htb) (by decide)
  have loop : ∀ (k l : Nat), l + k = x → ∃ f, vX9_differs_38 Q f R (nI e) (nI bar) (lN (sumN (exN tf e) l)) (lN (sumN (exN pf e) l)) (nI l) := by
    intro k
    induction k with
    | zero =>
      intro l hl
      refine ⟨1, fun _ => ⟨hin8, hin8, ?_⟩, fun q => absurd (by rw [b9]; exact nI_le (by omega) (by omega)) q⟩
      rw [hce, q2, q4, show l = x by omega, ← eT, ← eP]
      intro y ey
      refine ⟨hin8, fun z ez => ?_⟩
      rw [nI_l (by omega), nI_l (by omega)] at ey
      have ey : y = gapv (tf e) (pf e) (sumN (exN tf e) 8) (sumN (exN pf e) 8) := ey
      rw [pk_mul, nI_l hbt, lN_mul] at ez
      refine ⟨fun c => ?_, fun c => ⟨hin8, fun c2 => ?_, fun c2 => ?_⟩⟩
      · rw [lg_cmp_eq, show (0 : Int64) = lN 0 from rfl, lN_eq (by omega) (by decide)] at c
        have cp : sumN (exN pf e) 8 = 0 := by omega
        rw [c, cp] at hq
        rw [show gapv (tf e) (pf e) 0 0 = 0 from by unfold gapv; rw [lN_mul, lN_mul, Nat.mul_zero, Nat.zero_mul]; rfl, Nat.mul_zero] at hq
        exact hq
      · refine z_dfa (P := fun r => Q R r) ?_
        rw [ey, ez]
        exact hq
      · rw [show (0 : Int32) = nI 0 from rfl, nI_eq (by omega) (by decide)] at c2
        have cp : pf e = 0 := by omega
        rw [c2, cp] at hq
        rw [show gapv 0 0 (sumN (exN tf e) 8) (sumN (exN pf e) 8) = 0 from by unfold gapv; rw [lN_mul, lN_mul, Nat.mul_zero, Nat.zero_mul]; rfl, Nat.mul_zero, Nat.zero_mul] at hq
        exact hq
    | succ k ih =>
      intro l hl
      obtain ⟨f, hf⟩ := ih (l + 1) (by omega)
      have hin : vp_in (nI l) 8 := vp_in_nI (by omega) (by decide)
      have hcl : (nI l).toNatClampNeg = l := nI_clamp (by omega)
      obtain ⟨r1, r2, r3, r4, r5⟩ := p1 l (by omega)
      have hb1 := sumN_one tf (show l < 8 by omega)
      refine ⟨f + 1, fun q => absurd q (by rw [b9]; exact nI_ge (by omega) (by omega)), fun _ => ⟨fun c => ⟨hin, ?_⟩, fun c => ?_⟩⟩
      · have hle : l ≠ e := fun q => c (by rw [q])
        rw [hcl, r2]
        intro y ey
        refine ⟨fun _ => ⟨hin, ?_⟩, fun q => absurd q c⟩
        rw [hcl, r4]
        intro z ez u eu
        rw [nI_l (by omega), lN_add] at ey ez
        rw [eu, nI_1, ey, ez]
        have e1 : sumN (exN tf e) (l + 1) = sumN (exN tf e) l + tf l := by show _ + exN tf e l = _; unfold exN; rw [if_neg hle]
        have e2 : sumN (exN pf e) (l + 1) = sumN (exN pf e) l + pf l := by show _ + exN pf e l = _; unfold exN; rw [if_neg hle]
        rw [e1, e2] at hf
        exact hf
      · have hle : l = e := (nI_eq (by omega) (by omega)).mp c
        intro y ey
        refine ⟨fun q => absurd c q, fun _ => ?_⟩
        intro z ez u eu
        rw [Int64.add_zero] at ey ez
        rw [eu, nI_1, ey, ez]
        have e1 : sumN (exN tf e) (l + 1) = sumN (exN tf e) l := by show _ + exN tf e l = _; unfold exN; rw [if_pos hle]; rfl
        have e2 : sumN (exN pf e) (l + 1) = sumN (exN pf e) l := by show _ + exN pf e l = _; unfold exN; rw [if_pos hle]; rfl
        rw [e1, e2] at hf
        exact hf
  exact loop x 0 (by omega)
theorem op_differs {i n : Nat} {C R : Sg} {a b : Int32} (h : Rel i n C R) (hi : i ≤ 100000) : wX8_differs n C a b (fun C' r => wX9_differs R a b (Nx i n C' r)) := by
  have h0 := Rel_thr (v := 0) h
  obtain ⟨⟨w, x, hB, hL⟩, h3, h4, -⟩ := id h0
  have b8 := hB.2.2.2.2.2.2.2.1
  have b9 := hB.2.2.2.2.2.2.2.2.1
  have b3 := hB.2.2.1
  obtain ⟨tf, pf, p1, p2, p3, p4, p5⟩ := h4
  refine z_isExaminer b8 b3 (fun ce => ⟨fun _ => ?_, fun q => absurd rfl q⟩) (fun e hx ee => ⟨fun q => absurd q (by decide), fun _ => ?_⟩)
  · intro M1 e1
    subst e1
    rw [b9]
    exact ⟨fun _ => Nx_same h0, fun c1 => ⟨fun _ => Nx_same h0, fun c2 => absurd ce (fun q => q.elim c1 c2)⟩⟩
  subst ee
  refine z_within (fun cb => ⟨fun q => absurd rfl q, fun _ => ?_⟩) (fun g1 g2 => ⟨fun _ => ?_, fun q => absurd q (by decide)⟩)
  · intro M1 e1
    subst e1
    rw [b9]
    exact ⟨fun _ => Nx_same h0, fun c1 => ⟨fun _ => Nx_same h0, fun c2 => ⟨fun _ => Nx_same h0, fun c3 => ⟨fun c4 => absurd cb (fun q => q.elim c3 (Int32.not_lt.mpr c4)), fun _ => Nx_same h0⟩⟩⟩⟩
  · obtain ⟨bar, -, hb, rfl⟩ := z_rng (l := 0) (h := 100) rfl rfl (by decide) (by decide) g1 g2
    refine z_difC hi b8 b3 hx hb p1 p2 p3 p5 ?_
    intro M1 e1
    subst e1
    rw [b9]
    refine ⟨fun q => absurd q (nI_pos (by omega)), fun _ => ⟨fun q => absurd q (nI_ge hx (by omega)), fun _ => ⟨fun q => absurd q (nI_pos (by omega)), fun _ => ⟨fun _ => ?_, fun q => absurd g2 q⟩⟩⟩⟩
    exact z_difM hB hi hx hb p1 p2 ⟨rfl, Rel_mono h0 (Nat.le_succ i)⟩
