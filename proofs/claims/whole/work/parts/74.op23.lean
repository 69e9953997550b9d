/-! texts: the reference's machine follows the parse -/
def Kf (Q : Sg → Prop) (f : Nat) : Sg → Int32 → Prop := fun M3 r4 => ((r4 = 0 → (vX9_line_215 (vX9_line_185 Q f) Q M3 (0 : Int32))) ∧ (¬ r4 = 0 → (vX9_line_210 (vX9_line_185 Q f) Q M3)))
def EE (Q : Sg → Prop) (M : Sg) : Prop := ∃ f, vX9_line_185 Q f M 1
def BB (Q : Sg → Prop) (w : Nat) (M : Sg) : Prop := ∃ f, vX9_goesOnBehind_0 (Kf Q f) (w + 1) M
def F43 (Q : Sg → Prop) (w : Nat) (M : Sg) : Prop := ∃ f, vX9_goesOnBehind_43 (vX9_goesOnBehind_0 (Kf Q f) w) (Kf Q f) M
def gS (K0 : Sg → Prop) (Q : Sg → Int32 → Prop) (M : Sg) : Prop := (vp_in (gI M 18) 7 ∧ (((gA M 20 (gI M 18).toNatClampNeg) = 0 → (wX9_isSign M (60 : Int32) (fun M_5 r_6 => ((¬ r_6 = 0 → (vX9_goesOnBehind_153 Q M_5)) ∧ (r_6 = 0 → (wX9_isSign M_5 (61 : Int32) (fun M_7 r_8 => ((r_8 = 0 → (vX9_goesOnBehind_189 K0 Q M_7)) ∧ (¬ r_8 = 0 → (vX9_goesOnBehind_153 Q M_7)))))))))) ∧ (¬ (gA M 20 (gI M 18).toNatClampNeg) = 0 → (vp_in (gI M 18) 7 ∧ (wX9_emit M (gA M 20 (gI M 18).toNatClampNeg) (0 : Int32) (fun M_9 => (vp_in (gI M_9 18) 7 ∧ (∀ (M_11 : Sg), M_11 = sA M_9 20 (gI M_9 18).toNatClampNeg (0 : Int32) → (vX9_goesOnBehind_189 K0 Q M_11)))))))))
def SSx (Q : Sg → Prop) (w : Nat) (M : Sg) : Prop := ∃ f, gS (vX9_goesOnBehind_0 (Kf Q f) w) (Kf Q f) M
def TTx (Q : Sg → Prop) (w : Nat) (M : Sg) : Prop := ∃ f, vX9_goesOnBehind_189 (vX9_goesOnBehind_0 (Kf Q f) w) (Kf Q f) M
def F218 (Q : Sg → Prop) (w : Nat) (M : Sg) : Prop := ∃ f, vX9_goesOnBehind_218 (vX9_goesOnBehind_0 (Kf Q f) w) (Kf Q f) M
def gC (K0 : Sg → Prop) (Q : Sg → Int32 → Prop) (M : Sg) : Prop := ((¬ (gI M 18) = 0 → (wX9_takeSign M (41 : Int32) (fun M_3 => (∀ (M_5 : Sg), M_5 = sI M_3 18 ((gI M_3 18) - (1 : Int32)) → (K0 M_5))))) ∧ ((gI M 18) = 0 → (Q M (0 : Int32))))
def CCx (Q : Sg → Prop) (w : Nat) (M : Sg) : Prop := ∃ f, gC (vX9_goesOnBehind_0 (Kf Q f) w) (Kf Q f) M
section RefS
variable {tok pls : Nat → Nat} {N nx cb w pos : Nat} {M0 M : Sg} {cs : List Nat} {wt : Nat → Nat → Int32} {Q : Sg → Prop}
theorem e_num (hT : TM tok pls N nx M0) (h : MS N nx cb M0 w pos cs wt M) (ht : tok pos ≤ 10005) (hw : w < 5) (hB : BB Q w (ptM M (nI (opR (tok pos))) (nI (vR (tok pos))))) : EE Q M := by
  obtain ⟨f, hf⟩ := hB
  refine ⟨f + 1, fun c => absurd c (by decide), fun _ => ⟨fun c => absurd (ms_8 hT h) c, fun _ => m_part hT h (fun _ _ => ⟨fun c => absurd rfl c, fun _ => ⟨w + 1, hf⟩⟩) (fun q => absurd q (by omega)) (fun _ q => absurd hw q) (fun q => absurd (Or.inl ht) q)⟩⟩
theorem e_open (hT : TM tok pls N nx M0) (h : MS N nx cb M0 w pos cs wt M) (ht : tok pos = 10013) (hw : w < 5) (hE : EE Q (opM M)) : EE Q M := by
  obtain ⟨f, hf⟩ := hE
  refine ⟨f + 1, fun c => absurd c (by decide), fun _ => ⟨fun c => absurd (ms_8 hT h) c, fun _ => m_part hT h (fun q => absurd q (by omega)) (fun _ _ => ⟨fun _ => hf, fun c => absurd c (by decide)⟩) (fun _ q => absurd hw q) (fun q => absurd (Or.inr ht) q)⟩⟩
theorem b_bad {M' : Sg} {k f g : Nat} (h8 : gI M' 8 = nI (k + 16 * pls pos)) (hk : 1 ≤ k) (hk5 : k ≤ 5) (hp : pls pos ≤ 600) (hq : vX9_line_219 Q M') : vX9_goesOnBehind_0 (Kf Q (f + 1)) (g + 1) M' := by
  have hne : ¬ gI M' 8 = 0 := by rw [h8]; exact nI_ne0 (by omega) (by omega)
  exact ⟨fun _ => ⟨fun _ => ⟨fun _ => hq, fun c => absurd rfl c⟩, fun c => absurd rfl c⟩, fun c => absurd c hne⟩
theorem e_bad1 (hT : TM tok pls N nx M0) (h : MS N nx cb M0 w pos cs wt M) (ht : ¬ (tok pos ≤ 10005 ∨ tok pos = 10013)) (hq : vX9_line_219 Q (sI M 8 (nI (1 + 16 * pls pos)))) : EE Q M :=
  ⟨2, fun c => absurd c (by decide), fun _ => ⟨fun c => absurd (ms_8 hT h) c, fun _ => m_part hT h (fun q => absurd (Or.inl q) ht) (fun q => absurd (Or.inr q) ht) (fun q => absurd q ht) (fun _ => ⟨fun c => absurd rfl c, fun _ => ⟨1, b_bad (pos := pos) (pls := pls) (k := 1) rfl (by decide) (by decide) (ms_tk hT h).2.2.2 hq⟩⟩)⟩⟩
theorem e_bad5 (hT : TM tok pls N nx M0) (h : MS N nx cb M0 w pos cs wt M) (ht : tok pos ≤ 10005 ∨ tok pos = 10013) (hw : ¬ w < 5) (hq : vX9_line_219 Q (sI M 8 (nI (5 + 16 * pls pos)))) : EE Q M :=
  ⟨2, fun c => absurd c (by decide), fun _ => ⟨fun c => absurd (ms_8 hT h) c, fun _ => m_part hT h (fun _ q => absurd q hw) (fun _ q => absurd q hw) (fun _ _ => ⟨fun c => absurd rfl c, fun _ => ⟨1, b_bad (pos := pos) (pls := pls) (k := 5) rfl (by decide) (by decide) (ms_tk hT h).2.2.2 hq⟩⟩) (fun q => absurd ht q)⟩⟩
theorem b_0 (hT : TM tok pls N nx M0) (h : MS N nx cb M0 w pos cs wt M) (h0 : wt 19 w = 0) (hF : F43 Q w M) : BB Q w M := by
  obtain ⟨f, hf⟩ := hF
  obtain ⟨d1, d2⟩ := ms_d h
  refine ⟨f, fun c => absurd (ms_8 hT h) c, fun _ => ⟨d1, ?_⟩⟩
  rw [d2, h.2.2.2.2.2.2.2.1 19 (by decide) (by decide) w (Nat.le_refl w), h0]
  exact ⟨fun _ => hf, fun c => absurd rfl c⟩
theorem b_p {v : Nat} (hT : TM tok pls N nx M0) (h : MS N nx cb M0 w pos cs wt M) (h0 : wt 19 w = nI v) (hv : 0 < v) (hv2 : v < 100) (hF : F43 Q w (sA (emM M (nI v) 0) 19 w 0)) : BB Q w M := by
  obtain ⟨f, hf⟩ := hF
  obtain ⟨d1, d2⟩ := ms_d h
  refine ⟨f, fun c => absurd (ms_8 hT h) c, fun _ => ⟨d1, ?_⟩⟩
  rw [d2, h.2.2.2.2.2.2.2.1 19 (by decide) (by decide) w (Nat.le_refl w), h0]
  refine ⟨fun c => absurd c (nI_ne0 hv (by omega)), fun _ => ⟨d1, m_emit hT h ⟨d1, fun M3 e3 => ?_⟩⟩⟩
  have e : (gI (emM M (nI v) 0) 18).toNatClampNeg = w := d2
  rw [e] at e3
  subst e3
  exact hf
theorem s43_no (hT : TM tok pls N nx M0) (h : MS N nx cb M0 w pos cs wt M) (ht : ¬ (tok pos = 10006 ∨ tok pos = 10007)) (hS : SSx Q w M) : F43 Q w M := by
  obtain ⟨f, hf⟩ := hS
  refine ⟨f, m_isSign (c := 43) hT h (by decide) (fun q => absurd (Or.inl (q.trans (by decide))) ht) (fun _ => ⟨fun c => absurd rfl c, fun _ => m_isSign (c := 45) hT h (by decide) (fun q => absurd (Or.inr (q.trans (by decide))) ht) (fun _ => ⟨fun _ => hf, fun c => absurd rfl c⟩)⟩)⟩
theorem s43_yes (hT : TM tok pls N nx M0) (h : MS N nx cb M0 w pos cs wt M) (ht : tok pos = 10006 ∨ tok pos = 10007) (hE : EE Q (sI (sA M 19 w (nI (opR (tok pos)))) 7 (nI (pos + 1)))) : F43 Q w M := by
  obtain ⟨f, hf⟩ := hE
  obtain ⟨d1, d2⟩ := ms_d h
  have fin : ∀ v : Int32, v = nI (opR (tok pos)) → vX9_goesOnBehind_83 (Kf Q f) M v (gI M 18) := fun v ev => by
    refine ⟨d1, fun M1 e1 M2 e2 => ⟨fun c => absurd c (by decide), fun _ => ?_⟩⟩
    rw [d2, ev] at e1
    have e7 : gI M1 7 + 1 = nI (pos + 1) := by rw [e1]; show gI M 7 + 1 = _; rw [h.2.2.1, nI_1]
    rw [e7, e1] at e2
    rw [e2]
    exact hf
  rcases ht with z | z
  · have s61 : vX9_goesOnBehind_61 (Kf Q f) M := m_isSign (c := 43) hT h (by decide) (fun _ => ⟨fun c => absurd c (by decide), fun _ => fin 3 (by rw [z]; decide)⟩) (fun q => absurd (z.trans (by decide)) q)
    exact ⟨f, m_isSign (c := 43) hT h (by decide) (fun _ => ⟨fun _ => s61, fun c => absurd c (by decide)⟩) (fun q => absurd (z.trans (by decide)) q)⟩
  · have n43 : ¬ tok pos = sgT (nI 43) := by rw [z]; decide
    have s61 : vX9_goesOnBehind_61 (Kf Q f) M := m_isSign (c := 43) hT h (by decide) (fun q => absurd q n43) (fun _ => ⟨fun _ => fin 4 (by rw [z]; decide), fun c => absurd rfl c⟩)
    exact ⟨f, m_isSign (c := 43) hT h (by decide) (fun q => absurd q n43) (fun _ => ⟨fun c => absurd rfl c, fun _ => m_isSign (c := 45) hT h (by decide) (fun _ => ⟨fun c => absurd c (by decide), fun _ => s61⟩) (fun q => absurd (z.trans (by decide)) q)⟩)⟩
theorem gs_no (hT : TM tok pls N nx M0) (h : MS N nx cb M0 w pos cs wt M) (h0 : wt 20 w = 0) (ht : ¬ (tok pos = 10008 ∨ tok pos = 10009)) (hX : TTx Q w M) : SSx Q w M := by
  obtain ⟨f, hf⟩ := hX
  obtain ⟨d1, d2⟩ := ms_d h
  refine ⟨f, d1, ?_⟩
  rw [d2, h.2.2.2.2.2.2.2.1 20 (by decide) (by decide) w (Nat.le_refl w), h0]
  refine ⟨fun _ => m_isSign (c := 60) hT h (by decide) (fun q => absurd (Or.inl (q.trans (by decide))) ht) (fun _ => ⟨fun c => absurd rfl c, fun _ => m_isSign (c := 61) hT h (by decide) (fun q => absurd (Or.inr (q.trans (by decide))) ht) (fun _ => ⟨fun _ => hf, fun c => absurd rfl c⟩)⟩), fun c => absurd rfl c⟩
theorem gs_yes (hT : TM tok pls N nx M0) (h : MS N nx cb M0 w pos cs wt M) (h0 : wt 20 w = 0) (ht : tok pos = 10008 ∨ tok pos = 10009) (hE : EE Q (sI (sA M 20 w (nI (opR (tok pos)))) 7 (nI (pos + 1)))) : SSx Q w M := by
  obtain ⟨f, hf⟩ := hE
  obtain ⟨d1, d2⟩ := ms_d h
  have fin : ∀ v : Int32, v = nI (opR (tok pos)) → vX9_goesOnBehind_176 (Kf Q f) M v (gI M 18) := fun v ev => by
    refine ⟨d1, fun M1 e1 M2 e2 => ⟨fun c => absurd c (by decide), fun _ => ?_⟩⟩
    rw [d2, ev] at e1
    have e7 : gI M1 7 + 1 = nI (pos + 1) := by rw [e1]; show gI M 7 + 1 = _; rw [h.2.2.1, nI_1]
    rw [e7, e1] at e2
    rw [e2]
    exact hf
  refine ⟨f, d1, ?_⟩
  rw [d2, h.2.2.2.2.2.2.2.1 20 (by decide) (by decide) w (Nat.le_refl w), h0]
  refine ⟨fun _ => ?_, fun c => absurd rfl c⟩
  rcases ht with z | z
  · have s153 : vX9_goesOnBehind_153 (Kf Q f) M := m_isSign (c := 60) hT h (by decide) (fun _ => ⟨fun c => absurd c (by decide), fun _ => fin 5 (by rw [z]; decide)⟩) (fun q => absurd (z.trans (by decide)) q)
    exact m_isSign (c := 60) hT h (by decide) (fun _ => ⟨fun _ => s153, fun c => absurd c (by decide)⟩) (fun q => absurd (z.trans (by decide)) q)
  · have n60 : ¬ tok pos = sgT (nI 60) := by rw [z]; decide
    have s153 : vX9_goesOnBehind_153 (Kf Q f) M := m_isSign (c := 60) hT h (by decide) (fun q => absurd q n60) (fun _ => ⟨fun _ => fin 6 (by rw [z]; decide), fun c => absurd rfl c⟩)
    exact m_isSign (c := 60) hT h (by decide) (fun q => absurd q n60) (fun _ => ⟨fun c => absurd rfl c, fun _ => m_isSign (c := 61) hT h (by decide) (fun _ => ⟨fun c => absurd c (by decide), fun _ => s153⟩) (fun q => absurd (z.trans (by decide)) q)⟩)
theorem gs_p {v : Nat} (hT : TM tok pls N nx M0) (h : MS N nx cb M0 w pos cs wt M) (h0 : wt 20 w = nI v) (hv : 0 < v) (hv2 : v < 100) (hX : TTx Q w (sA (emM M (nI v) 0) 20 w 0)) : SSx Q w M := by
  obtain ⟨f, hf⟩ := hX
  obtain ⟨d1, d2⟩ := ms_d h
  refine ⟨f, d1, ?_⟩
  rw [d2, h.2.2.2.2.2.2.2.1 20 (by decide) (by decide) w (Nat.le_refl w), h0]
  refine ⟨fun c => absurd c (nI_ne0 hv (by omega)), fun _ => ⟨d1, m_emit hT h ⟨d1, fun M3 e3 => ?_⟩⟩⟩
  have e : (gI (emM M (nI v) 0) 18).toNatClampNeg = w := d2
  rw [e] at e3
  subst e3
  exact hf
theorem t_0 (h : MS N nx cb M0 w pos cs wt M) (h0 : wt 21 w = 0) (hF : F218 Q w M) : TTx Q w M := by
  obtain ⟨f, hf⟩ := hF
  obtain ⟨d1, d2⟩ := ms_d h
  refine ⟨f, d1, ?_⟩
  rw [d2, h.2.2.2.2.2.2.2.1 21 (by decide) (by decide) w (Nat.le_refl w), h0]
  exact ⟨fun _ => hf, fun c => absurd rfl c⟩
theorem t_p (hT : TM tok pls N nx M0) (h : MS N nx cb M0 w pos cs wt M) (h0 : wt 21 w = 7) (hF : F218 Q w (sA (emM M (nI 7) 0) 21 w 0)) : TTx Q w M := by
  obtain ⟨f, hf⟩ := hF
  obtain ⟨d1, d2⟩ := ms_d h
  refine ⟨f, d1, ?_⟩
  rw [d2, h.2.2.2.2.2.2.2.1 21 (by decide) (by decide) w (Nat.le_refl w), h0]
  refine ⟨fun c => absurd c (by decide), fun _ => m_emit hT h ⟨d1, fun M3 e3 => ?_⟩⟩
  have e : (gI (emM M (7 : Int32) 0) 18).toNatClampNeg = w := d2
  rw [e] at e3
  subst e3
  exact hf
theorem c_no (hT : TM tok pls N nx M0) (h : MS N nx cb M0 w pos cs wt M) (ht : ¬ tok pos = 10010) (hC : CCx Q w M) : F218 Q w M := by
  obtain ⟨f, hf⟩ := hC
  exact ⟨f, m_isWord (k := 2) hT h (by decide) (fun q => absurd (q.trans (by decide)) ht) (fun _ => ⟨fun _ => hf, fun c => absurd rfl c⟩)⟩
theorem c_yes (hT : TM tok pls N nx M0) (h : MS N nx cb M0 w pos cs wt M) (ht : tok pos = 10010) (hE : EE Q (sI (sA M 21 w 7) 7 (nI (pos + 1)))) : F218 Q w M := by
  obtain ⟨f, hf⟩ := hE
  obtain ⟨d1, d2⟩ := ms_d h
  refine ⟨f, m_isWord (k := 2) hT h (by decide) (fun _ => ⟨fun c => absurd c (by decide), fun _ => ⟨d1, fun M1 e1 M2 e2 => ⟨fun c => absurd c (by decide), fun _ => ?_⟩⟩⟩) (fun q => absurd (ht.trans (by decide)) q)⟩
  rw [d2] at e1
  have e7 : gI M1 7 + 1 = nI (pos + 1) := by rw [e1]; show gI M 7 + 1 = _; rw [h.2.2.1, nI_1]
  rw [e7, e1] at e2
  rw [e2]
  exact hf
theorem cc_close (hT : TM tok pls N nx M0) (h : MS N nx cb M0 (w + 1) pos cs wt M) (ht : tok pos = 10014) (hB : BB Q w (sI (sI M 7 (nI (pos + 1))) 18 (nI w))) : CCx Q (w + 1) M := by
  obtain ⟨f, hf⟩ := hB
  have hw := h.2.2.2.2.2.2.2.2.2.1
  refine ⟨f, fun _ => m_isSign (c := 41) hT h (by decide) (fun _ => ⟨fun c => absurd c (by decide), fun _ M1 e1 M2 e2 => ?_⟩) (fun q => absurd (ht.trans (by decide)) q), fun c => absurd c (by rw [h.2.2.2.2.1]; exact nI_ne0 (by omega) (by omega))⟩
  rw [h.2.2.1, nI_1] at e1
  have e18 : gI M1 18 - 1 = nI w := by rw [e1]; show gI M 18 - 1 = _; rw [h.2.2.2.2.1, nI_pred]
  rw [e18, e1] at e2
  rw [e2]
  exact hf
theorem cc_bad (hT : TM tok pls N nx M0) (h : MS N nx cb M0 (w + 1) pos cs wt M) (ht : ¬ tok pos = 10014) (hq : vX9_line_219 Q (sI (sI M 8 (nI (1 + 16 * pls pos))) 18 (nI w))) : CCx Q (w + 1) M := by
  have hw := h.2.2.2.2.2.2.2.2.2.1
  refine ⟨1, fun _ => m_isSign (c := 41) hT h (by decide) (fun q => absurd (q.trans (by decide)) ht) (fun _ => ⟨fun _ => m_wrong (k := 1) hT h (fun M2 e2 => ?_), fun c => absurd rfl c⟩), fun c => absurd c (by rw [h.2.2.2.2.1]; exact nI_ne0 (by omega) (by omega))⟩
  have e18 : gI (sI M 8 (nI (1 + 16 * pls pos))) 18 - 1 = nI w := by show gI M 18 - 1 = _; rw [h.2.2.2.2.1, nI_pred]
  rw [e18] at e2
  rw [e2]
  exact b_bad (pos := pos) (pls := pls) (k := 1) rfl (by decide) (by decide) (ms_tk hT h).2.2.2 hq
end RefS
def RS (Q : Sg → Prop) (pls : Nat → Nat) (N nx cb : Nat) (M0 : Sg) (w : Nat) (C : (Nat → Nat → Int32) → Prop) (G : Nat → PR → Prop) (X : Sg → Prop) : Prop :=
  ∀ (pos : Nat) (c0 : List Nat) (wt : Nat → Nat → Int32) (M : Sg) (r : PR), C wt → G pos r → MS N nx cb M0 w pos c0 wt M → (∀ p k, r = .inl (p, k) → ∀ M', MF N nx cb pls M0 p k M' → vX9_line_219 Q M') → (∀ p cs, r = .inr (p, cs) → ∀ M', MS N nx cb M0 w p (c0 ++ cs) wt M' → X M') → EE Q M
section RefR
variable {tok pls : Nat → Nat} {N nx cb w : Nat} {M0 : Sg} {Q : Sg → Prop}
theorem mf_18 {p k : Nat} {M : Sg} {v : Int32} (h : MF N nx cb pls M0 p k M) : MF N nx cb pls M0 p k (sI M 18 v) := ⟨ag_sI h.1 (by decide), h.2⟩
theorem r_part {F : Nat → PR → Prop} (hT : TM tok pls N nx M0) (hF : w < 5 → RS Q pls N nx cb M0 (w + 1) (fun wt => wt 19 (w + 1) = 0 ∧ wt 20 (w + 1) = 0 ∧ wt 21 (w + 1) = 0) F (CCx Q (w + 1))) : RS Q pls N nx cb M0 w (fun _ => True) (PPart tok F w) (BB Q w) := by
  intro pos c0 wt M r _ hG hM hf hok
  have hn := hM.2.2.2.2.2.2.2.2.1
  rcases hG with ⟨c, e⟩ | ⟨c, c2, e⟩ | ⟨c, c2, e⟩ | ⟨c, c2, r', hR, hr⟩
  · exact e_bad1 hT hM c (hf pos 1 e _ (ms_mf hT hM (by decide) (by decide)))
  · exact e_bad5 hT hM c c2 (hf pos 5 e _ (ms_mf hT hM (by decide) (by decide)))
  · exact e_num hT hM c c2 (hok (pos + 1) [tok pos] e _ (ms_pt hT hM rfl (TM_nx hT hn (by omega))))
  · have hn1 : pos + 1 < N := TM_nx hT hn (by omega)
    refine e_open hT hM c c2 (hF c2 (pos + 1) c0 _ (opM M) r' ⟨if_pos rfl, if_pos rfl, if_pos rfl⟩ hR (ms_op hM hn1 c2) (fun p k er M' hM' => ?_) (fun p cs er M' hM' => ?_))
    · rcases hr with ⟨e0, e1, e2⟩ | ⟨p', cs', e1, -⟩
      · rw [er] at e1
        injection e1 with e1
        subst e1
        exact hf p k e2 M' hM'
      · rw [er] at e1; exact absurd e1 (by simp)
    · rcases hr with ⟨e0, e1, e2⟩ | ⟨p', cs', e1, ⟨d1, d2⟩ | ⟨d1, d2⟩⟩
      · rw [er] at e1; exact absurd e1 (by simp)
      · rw [er] at e1
        injection e1 with e1; injection e1 with e1 e3; subst e1 e3
        refine cc_close hT hM' d1 (hok (p + 1) cs d2 _ (ms_wt (ms_dn (ms_at hM' rfl (TM_nx hT hM'.2.2.2.2.2.2.2.2.1 (by omega)) (by have := hM'.2.2.2.2.2.2.2.2.2.2; omega)) (by omega) rfl) (fun a _ _ l hl => ?_)))
        exact (if_neg (by omega)).symm
      · rw [er] at e1
        injection e1 with e1; injection e1 with e1 e3; subst e1 e3
        exact cc_bad hT hM' d1 (hf p 1 d2 _ (mf_18 (ms_mf hT hM' (by decide) (by decide))))
theorem r_sum {P : Nat → PR → Prop} (hT : TM tok pls N nx M0) (hl : LNp P) (hP : RS Q pls N nx cb M0 w (fun _ => True) P (BB Q w)) : RS Q pls N nx cb M0 w (fun wt => wt 19 w = 0) (PSum tok P) (SSx Q w) := by
  intro pos c0 wt M r hC hG hM hf hok
  have claim : ∀ (k pos : Nat) (cs : List Nat) (M : Sg), PSumL tok P k pos cs r → MS N nx cb M0 w pos (c0 ++ cs) wt M → F43 Q w M := by
    intro k
    induction k with
    | zero => intro pos cs M h; exact h.elim
    | succ k ih =>
      intro pos cs M hG hM
      have hn := hM.2.2.2.2.2.2.2.2.1
      have hb := hM.2.2.2.2.2.2.2.2.2.2
      rcases hG with ⟨c, e⟩ | ⟨c, r', hR, hr⟩
      · exact s43_no hT hM c (hok pos cs e M hM)
      · have hn1 : pos + 1 < N := TM_nx hT hn (by omega)
        refine s43_yes hT hM c (hP (pos + 1) (c0 ++ cs) (wtu wt 19 w (nI (opR (tok pos)))) _ r' trivial hR (ms_at (ms_set hM (by decide) (by decide)) rfl hn1 (by omega)) (fun p k' er M' hM' => ?_) (fun p c' er M' hM' => ?_))
        · rcases hr with ⟨e0, e1, e2⟩ | ⟨p', cs', e1, -⟩
          · rw [er] at e1
            injection e1 with e1
            subst e1
            exact hf p k' e2 M' hM'
          · rw [er] at e1; exact absurd e1 (by simp)
        · rcases hr with ⟨e0, e1, e2⟩ | ⟨p', cs', e1, hL⟩
          · rw [er] at e1; exact absurd e1 (by simp)
          · rw [er] at e1
            injection e1 with e1; injection e1 with e1 e3; subst e1 e3
            rw [er] at hR
            have ln := hl _ _ _ hR
            have eo : 0 < opR (tok pos) ∧ opR (tok pos) < 100 ∧ vR (tok pos) = 0 := by
              rcases c with z | z <;> rw [z] <;> decide
            have hM2 := ms_em (c := tok pos) (v := 0) hT hM' (by rw [eo.2.2]; rfl) (by rw [List.length_append]; omega)
            refine b_p hT hM' wtu_s eo.1 eo.2.1 (ih p _ _ hL ?_)
            have hM3 := ms_set (a := 19) (v := 0) hM2 (by decide) (by decide)
            rw [← List.append_assoc, ← List.append_assoc]
            refine ms_wt hM3 (fun a h1 h2 l hl' => ?_)
            unfold wtu
            by_cases z : a = 19 ∧ l = w
            · rw [if_pos z, z.1, z.2]; exact hC
            · rw [if_neg z, if_neg z]
  obtain ⟨r', hR, hr⟩ := hG
  refine hP pos c0 wt M r' trivial hR hM (fun p k er M' hM' => ?_) (fun p c er M' hM' => ?_)
  · rcases hr with ⟨e0, e1, e2⟩ | ⟨p', cs', k', e1, -⟩
    · rw [er] at e1
      injection e1 with e1
      subst e1
      exact hf p k e2 M' hM'
    · rw [er] at e1; exact absurd e1 (by simp)
  · rcases hr with ⟨e0, e1, e2⟩ | ⟨p', cs', k', e1, hL⟩
    · rw [er] at e1; exact absurd e1 (by simp)
    · rw [er] at e1
      injection e1 with e1; injection e1 with e1 e3; subst e1 e3
      exact b_0 hT hM' hC (claim k' p c M' hL hM')
theorem r_test {S : Nat → PR → Prop} (hT : TM tok pls N nx M0) (hl : LNp S) (hS : RS Q pls N nx cb M0 w (fun wt => wt 19 w = 0) S (SSx Q w)) : RS Q pls N nx cb M0 w (fun wt => wt 19 w = 0 ∧ wt 20 w = 0) (PTest tok S) (TTx Q w) := by
  intro pos c0 wt M r hC hG hM hf hok
  obtain ⟨r', hR, hr⟩ := hG
  refine hS pos c0 wt M r' hC.1 hR hM (fun p k er M' hM' => ?_) (fun p c er M' hM' => ?_)
  · rcases hr with ⟨e0, e1, e2⟩ | ⟨p', cs', e1, -⟩
    · rw [er] at e1
      injection e1 with e1
      subst e1
      exact hf p k e2 M' hM'
    · rw [er] at e1; exact absurd e1 (by simp)
  · rcases hr with ⟨e0, e1, e2⟩ | ⟨p', cs', e1, hr⟩
    · rw [er] at e1; exact absurd e1 (by simp)
    · rw [er] at e1
      injection e1 with e1; injection e1 with e1 e3; subst e1 e3
      have hn := hM'.2.2.2.2.2.2.2.2.1
      have hb := hM'.2.2.2.2.2.2.2.2.2.2
      rcases hr with ⟨c1, e2⟩ | ⟨c1, r2, hR2, hr2⟩
      · exact gs_no hT hM' hC.2 c1 (hok p c e2 M' hM')
      · have hn1 : p + 1 < N := TM_nx hT hn (by omega)
        refine gs_yes hT hM' hC.2 c1 (hS (p + 1) (c0 ++ c) (wtu wt 20 w (nI (opR (tok p)))) _ r2 ((wtu_n (by decide)).trans hC.1) hR2 (ms_at (ms_set hM' (by decide) (by decide)) rfl hn1 (by omega)) (fun p2 k' er2 M2 hM2 => ?_) (fun p2 c2 er2 M2 hM2 => ?_))
        · rcases hr2 with ⟨e0, e1, e2⟩ | ⟨p', cs', e1, -⟩
          · rw [er2] at e1
            injection e1 with e1
            subst e1
            exact hf p2 k' e2 M2 hM2
          · rw [er2] at e1; exact absurd e1 (by simp)
        · rcases hr2 with ⟨e0, e1, e2⟩ | ⟨p', cs', e1, e2⟩
          · rw [er2] at e1; exact absurd e1 (by simp)
          · rw [er2] at e1
            injection e1 with e1; injection e1 with e1 e3; subst e1 e3
            rw [er2] at hR2
            have ln := hl _ _ _ hR2
            have eo : 0 < opR (tok p) ∧ opR (tok p) < 100 ∧ vR (tok p) = 0 := by
              rcases c1 with z | z <;> rw [z] <;> decide
            have hM3 := ms_em (c := tok p) (v := 0) hT hM2 (by rw [eo.2.2]; rfl) (by rw [List.length_append]; omega)
            have hM4 := ms_set (a := 20) (v := 0) hM3 (by decide) (by decide)
            refine gs_p hT hM2 wtu_s eo.1 eo.2.1 (hok p2 _ e2 _ ?_)
            rw [← List.append_assoc, ← List.append_assoc]
            refine ms_wt hM4 (fun a h1 h2 l hl' => ?_)
            unfold wtu
            by_cases z : a = 20 ∧ l = w
            · rw [if_pos z, z.1, z.2]; exact hC.2
            · rw [if_neg z, if_neg z]
theorem r_condR {T : Nat → PR → Prop} (hT : TM tok pls N nx M0) (hl : LNp T) (hP : RS Q pls N nx cb M0 w (fun wt => wt 19 w = 0 ∧ wt 20 w = 0) T (TTx Q w)) : RS Q pls N nx cb M0 w (fun wt => wt 19 w = 0 ∧ wt 20 w = 0 ∧ wt 21 w = 0) (PCondR tok T) (CCx Q w) := by
  intro pos c0 wt M r hC hG hM hf hok
  have claim : ∀ (k pos : Nat) (cs : List Nat) (M : Sg), PCondL tok T k pos cs r → MS N nx cb M0 w pos (c0 ++ cs) wt M → F218 Q w M := by
    intro k
    induction k with
    | zero => intro pos cs M h; exact h.elim
    | succ k ih =>
      intro pos cs M hG hM
      have hn := hM.2.2.2.2.2.2.2.2.1
      have hb := hM.2.2.2.2.2.2.2.2.2.2
      rcases hG with ⟨c, e⟩ | ⟨c, r', hR, hr⟩
      · exact c_no hT hM c (hok pos cs e M hM)
      · have hn1 : pos + 1 < N := TM_nx hT hn (by omega)
        refine c_yes hT hM c (hP (pos + 1) (c0 ++ cs) (wtu wt 21 w 7) _ r' ⟨(wtu_n (by decide)).trans hC.1, (wtu_n (by decide)).trans hC.2.1⟩ hR (ms_at (ms_set hM (by decide) (by decide)) rfl hn1 (by omega)) (fun p k' er M' hM' => ?_) (fun p c' er M' hM' => ?_))
        · rcases hr with ⟨e0, e1, e2⟩ | ⟨p', cs', e1, -⟩
          · rw [er] at e1
            injection e1 with e1
            subst e1
            exact hf p k' e2 M' hM'
          · rw [er] at e1; exact absurd e1 (by simp)
        · rcases hr with ⟨e0, e1, e2⟩ | ⟨p', cs', e1, hL⟩
          · rw [er] at e1; exact absurd e1 (by simp)
          · rw [er] at e1
            injection e1 with e1; injection e1 with e1 e3; subst e1 e3
            rw [er] at hR
            have ln := hl _ _ _ hR
            have hM2 := ms_em (c := 10010) (v := 0) hT hM' (by decide) (by rw [List.length_append]; omega)
            refine t_p hT hM' wtu_s (ih p _ _ hL ?_)
            have hM3 := ms_set (a := 21) (v := 0) hM2 (by decide) (by decide)
            rw [← List.append_assoc, ← List.append_assoc]
            refine ms_wt hM3 (fun a h1 h2 l hl' => ?_)
            unfold wtu
            by_cases z : a = 21 ∧ l = w
            · rw [if_pos z, z.1, z.2]; exact hC.2.2
            · rw [if_neg z, if_neg z]
  obtain ⟨r', hR, hr⟩ := hG
  refine hP pos c0 wt M r' ⟨hC.1, hC.2.1⟩ hR hM (fun p k er M' hM' => ?_) (fun p c er M' hM' => ?_)
  · rcases hr with ⟨e0, e1, e2⟩ | ⟨p', cs', k', e1, -⟩
    · rw [er] at e1
      injection e1 with e1
      subst e1
      exact hf p k e2 M' hM'
    · rw [er] at e1; exact absurd e1 (by simp)
  · rcases hr with ⟨e0, e1, e2⟩ | ⟨p', cs', k', e1, hL⟩
    · rw [er] at e1; exact absurd e1 (by simp)
    · rw [er] at e1
      injection e1 with e1; injection e1 with e1 e3; subst e1 e3
      exact t_0 hM' hC.2.2 (claim k' p c M' hL hM')
theorem r_cond (hT : TM tok pls N nx M0) : ∀ (d w : Nat), RS Q pls N nx cb M0 w (fun wt => wt 19 w = 0 ∧ wt 20 w = 0 ∧ wt 21 w = 0) (PCond tok d w) (CCx Q w) := by
  intro d
  induction d with
  | zero => intro w pos c0 wt M r _ hG; exact hG.elim
  | succ d ih =>
    intro w
    exact r_condR hT (ln_test (ln_sum (ln_part (ln_cond d (w + 1))))) (r_test hT (ln_sum (ln_part (ln_cond d (w + 1)))) (r_sum hT (ln_part (ln_cond d (w + 1))) (r_part hT (fun _ => ih (w + 1)))))
end RefR
