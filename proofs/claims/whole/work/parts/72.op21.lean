/-! texts: how they are parsed, and the class's parser -/
abbrev PR : Type := Sum (Nat × Nat) (Nat × List Nat)
def PPart (tok : Nat → Nat) (F : Nat → PR → Prop) (w pos : Nat) (r : PR) : Prop :=
  (¬ (tok pos ≤ 10005 ∨ tok pos = 10013) ∧ r = .inl (pos, 1)) ∨ ((tok pos ≤ 10005 ∨ tok pos = 10013) ∧ ¬ w < 5 ∧ r = .inl (pos, 5)) ∨ (tok pos ≤ 10005 ∧ w < 5 ∧ r = .inr (pos + 1, [tok pos])) ∨
  (tok pos = 10013 ∧ w < 5 ∧ ∃ r', F (pos + 1) r' ∧ ((∃ e, r' = .inl e ∧ r = .inl e) ∨ (∃ p cs, r' = .inr (p, cs) ∧ ((tok p = 10014 ∧ r = .inr (p + 1, cs)) ∨ (¬ tok p = 10014 ∧ r = .inl (p, 1))))))
def PSumL (tok : Nat → Nat) (P : Nat → PR → Prop) : Nat → Nat → List Nat → PR → Prop
  | 0, _, _, _ => False
  | k + 1, pos, cs, r => (¬ (tok pos = 10006 ∨ tok pos = 10007) ∧ r = .inr (pos, cs)) ∨ ((tok pos = 10006 ∨ tok pos = 10007) ∧ ∃ r', P (pos + 1) r' ∧ ((∃ e, r' = .inl e ∧ r = .inl e) ∨ ∃ p c, r' = .inr (p, c) ∧ PSumL tok P k p (cs ++ c ++ [tok pos]) r))
def PSum (tok : Nat → Nat) (P : Nat → PR → Prop) (pos : Nat) (r : PR) : Prop := ∃ r', P pos r' ∧ ((∃ e, r' = .inl e ∧ r = .inl e) ∨ ∃ p c k, r' = .inr (p, c) ∧ PSumL tok P k p c r)
def PTest (tok : Nat → Nat) (S : Nat → PR → Prop) (pos : Nat) (r : PR) : Prop := ∃ r', S pos r' ∧ ((∃ e, r' = .inl e ∧ r = .inl e) ∨ ∃ p c, r' = .inr (p, c) ∧ ((¬ (tok p = 10008 ∨ tok p = 10009) ∧ r = .inr (p, c)) ∨ ((tok p = 10008 ∨ tok p = 10009) ∧ ∃ r2, S (p + 1) r2 ∧ ((∃ e, r2 = .inl e ∧ r = .inl e) ∨ ∃ p2 c2, r2 = .inr (p2, c2) ∧ r = .inr (p2, c ++ c2 ++ [tok p])))))
def PCondL (tok : Nat → Nat) (T : Nat → PR → Prop) : Nat → Nat → List Nat → PR → Prop
  | 0, _, _, _ => False
  | k + 1, pos, cs, r => (¬ tok pos = 10010 ∧ r = .inr (pos, cs)) ∨ (tok pos = 10010 ∧ ∃ r', T (pos + 1) r' ∧ ((∃ e, r' = .inl e ∧ r = .inl e) ∨ ∃ p c, r' = .inr (p, c) ∧ PCondL tok T k p (cs ++ c ++ [10010]) r))
def PCondR (tok : Nat → Nat) (T : Nat → PR → Prop) (pos : Nat) (r : PR) : Prop := ∃ r', T pos r' ∧ ((∃ e, r' = .inl e ∧ r = .inl e) ∨ ∃ p c k, r' = .inr (p, c) ∧ PCondL tok T k p c r)
def PCond (tok : Nat → Nat) : Nat → Nat → Nat → PR → Prop
  | 0 => fun _ _ _ => False
  | d + 1 => fun w => PCondR tok (PTest tok (PSum tok (PPart tok (PCond tok d (w + 1)) w)))
/-! a parse takes at least as many tokens as it makes codes -/
def LNp (G : Nat → PR → Prop) : Prop := ∀ pos p cs, G pos (.inr (p, cs)) → pos < p ∧ pos + cs.length ≤ p
theorem ln_part {tok : Nat → Nat} {F : Nat → PR → Prop} {w : Nat} (h : LNp F) : LNp (PPart tok F w) := by
  intro pos p cs hP
  rcases hP with ⟨-, e⟩ | ⟨-, -, e⟩ | ⟨-, -, e⟩ | ⟨-, -, r', hF, ⟨e0, e1, e2⟩ | ⟨p', cs', e1, ⟨-, e2⟩ | ⟨-, e2⟩⟩⟩
  · exact absurd e (by simp)
  · exact absurd e (by simp)
  · injection e with e; injection e with e1 e2; subst e1 e2; exact ⟨by omega, by rw [List.length_singleton]; omega⟩
  · exact absurd e2 (by simp)
  · injection e2 with e2; injection e2 with e3 e4; subst e3 e4 e1
    have := h _ _ _ hF
    exact ⟨by omega, by omega⟩
  · exact absurd e2 (by simp)
theorem ln_sumL {tok : Nat → Nat} {P : Nat → PR → Prop} (h : LNp P) : ∀ (k pos0 pos : Nat) (cs : List Nat) (p : Nat) (c : List Nat), pos0 < pos → pos0 + cs.length ≤ pos → PSumL tok P k pos cs (.inr (p, c)) → pos0 < p ∧ pos0 + c.length ≤ p := by
  intro k
  induction k with
  | zero => intro _ _ _ _ _ _ _ h; exact h.elim
  | succ k ih =>
    intro pos0 pos cs p c h1 h2 hP
    rcases hP with ⟨-, e⟩ | ⟨-, r', hF, ⟨e0, e1, e2⟩ | ⟨p', c', e1, hR⟩⟩
    · injection e with e; injection e with e1 e2; subst e1 e2; exact ⟨h1, h2⟩
    · exact absurd e2 (by simp)
    · subst e1
      have := h _ _ _ hF
      exact ih pos0 p' _ p c (by omega) (by rw [List.length_append, List.length_append, List.length_singleton]; omega) hR
theorem ln_sum {tok : Nat → Nat} {P : Nat → PR → Prop} (h : LNp P) : LNp (PSum tok P) := by
  intro pos p cs hP
  obtain ⟨r', hF, ⟨e0, e1, e2⟩ | ⟨p', c', k, e1, hR⟩⟩ := hP
  · exact absurd e2 (by simp)
  · subst e1
    have := h _ _ _ hF
    exact ln_sumL h k pos p' c' p cs this.1 this.2 hR
theorem ln_test {tok : Nat → Nat} {S : Nat → PR → Prop} (h : LNp S) : LNp (PTest tok S) := by
  intro pos p cs hP
  obtain ⟨r', hF, ⟨e0, e1, e2⟩ | ⟨p', c', e1, ⟨-, e⟩ | ⟨-, r2, hF2, ⟨e0, e2, e3⟩ | ⟨p2, c2, e2, e3⟩⟩⟩⟩ := hP
  · exact absurd e2 (by simp)
  · subst e1
    injection e with e; injection e with e1 e2; subst e1 e2
    exact h _ _ _ hF
  · exact absurd e3 (by simp)
  · subst e1 e2
    injection e3 with e; injection e with e1 e2; subst e1 e2
    have a := h _ _ _ hF
    have b := h _ _ _ hF2
    exact ⟨by omega, by rw [List.length_append, List.length_append, List.length_singleton]; omega⟩
theorem ln_condL {tok : Nat → Nat} {P : Nat → PR → Prop} (h : LNp P) : ∀ (k pos0 pos : Nat) (cs : List Nat) (p : Nat) (c : List Nat), pos0 < pos → pos0 + cs.length ≤ pos → PCondL tok P k pos cs (.inr (p, c)) → pos0 < p ∧ pos0 + c.length ≤ p := by
  intro k
  induction k with
  | zero => intro _ _ _ _ _ _ _ h; exact h.elim
  | succ k ih =>
    intro pos0 pos cs p c h1 h2 hP
    rcases hP with ⟨-, e⟩ | ⟨-, r', hF, ⟨e0, e1, e2⟩ | ⟨p', c', e1, hR⟩⟩
    · injection e with e; injection e with e1 e2; subst e1 e2; exact ⟨h1, h2⟩
    · exact absurd e2 (by simp)
    · subst e1
      have := h _ _ _ hF
      exact ih pos0 p' _ p c (by omega) (by rw [List.length_append, List.length_append, List.length_singleton]; omega) hR
theorem ln_condR {tok : Nat → Nat} {P : Nat → PR → Prop} (h : LNp P) : LNp (PCondR tok P) := by
  intro pos p cs hP
  obtain ⟨r', hF, ⟨e0, e1, e2⟩ | ⟨p', c', k, e1, hR⟩⟩ := hP
  · exact absurd e2 (by simp)
  · subst e1
    have := h _ _ _ hF
    exact ln_condL h k pos p' c' p cs this.1 this.2 hR
theorem ln_cond {tok : Nat → Nat} : ∀ (d w : Nat), LNp (PCond tok d w) := by
  intro d
  induction d with
  | zero => intro w pos p cs h; exact h.elim
  | succ d ih => intro w; exact ln_condR (ln_test (ln_sum (ln_part (ih (w + 1)))))
/-! the class -/
def TB (tok : Nat → Nat) (N : Nat) (M0 : Sg) : Prop := 1 ≤ N ∧ N ≤ 601 ∧ gI M0 19 = nI N ∧ (∀ i, i < N → gA M0 17 i = nI (tok i) ∧ tok i ≤ 10017) ∧ tok (N - 1) = 10016 ∧ gI M0 24 = 1 ∧ gI M0 21 = 1
def CS (N : Nat) (M0 : Sg) (pos : Nat) (c0 : List Nat) (M : Sg) : Prop := ag [18, 20] [15] M0 M ∧ gI M 20 = nI pos ∧ gI M 18 = nI c0.length ∧ (∀ i, i < c0.length → gA M 15 i = nI (c0.getD i 0)) ∧ c0.length ≤ pos ∧ pos < N
def FS (N : Nat) (M0 : Sg) (p k : Nat) (M : Sg) : Prop := ag [18, 20, 21] [15] M0 M ∧ gI M 20 = nI p ∧ gI M 21 = nI k ∧ p < N
def CO (N : Nat) (M0 : Sg) (c0 : List Nat) (r : PR) (M' : Sg) (v : Int32) : Prop := (∃ p k, r = .inl (p, k) ∧ v = 0 ∧ FS N M0 p k M') ∨ (∃ p cs, r = .inr (p, cs) ∧ v = 1 ∧ CS N M0 p (c0 ++ cs) M')
theorem CS_FS {tok : Nat → Nat} {N pos : Nat} {M0 M : Sg} {c0 : List Nat} (hT : TB tok N M0) (h : CS N M0 pos c0 M) : FS N M0 pos 1 M := ⟨ag_mono h.1 (by simp) (by simp), h.2.1, (h.1.1 21 (by decide)).trans hT.2.2.2.2.2.2, h.2.2.2.2.2⟩
theorem CS_adv {N pos : Nat} {M0 M : Sg} {c0 : List Nat} (h : CS N M0 pos c0 M) (hn : pos + 1 < N) : CS N M0 (pos + 1) c0 (sI M 20 (nI (pos + 1))) := ⟨ag_sI h.1 (by decide), rfl, h.2.2.1, h.2.2.2.1, by have := h.2.2.2.2.1; omega, hn⟩
theorem TB_nx {tok : Nat → Nat} {N pos : Nat} {M0 : Sg} (hT : TB tok N M0) (h : pos < N) (hk : ¬ tok pos = 10016) : pos + 1 < N := by
  rcases Nat.lt_or_ge (pos + 1) N with z | z
  · exact z
  · exfalso
    refine hk ?_
    rw [show pos = N - 1 by omega]
    exact hT.2.2.2.2.1
theorem z_peek {n N pos : Nat} {tok : Nat → Nat} {M0 M : Sg} {c0 : List Nat} {Q : Sg → Int32 → Prop} (hT : TB tok N M0) (h : CS N M0 pos c0 M) (hq : Q M (nI (tok pos))) : wX6_peek n M Q := by
  obtain ⟨a, h20, -, -, -, hn⟩ := h
  have hN := hT.2.1
  unfold wX6_peek
  rw [a.1 19 (by decide), hT.2.2.1, h20, nI_clamp (by omega), a.2.1 17 (by decide), (hT.2.2.2.1 pos hn).1]
  exact ⟨fun c => absurd c (nI_ge hn (by omega)), fun _ => ⟨vp_in_nI (by omega) (by decide), hq⟩⟩
theorem z_take {n N pos T : Nat} {tok : Nat → Nat} {M0 M : Sg} {c0 : List Nat} {Q : Sg → Int32 → Prop} (hT : TB tok N M0) (h : CS N M0 pos c0 M) (hb : T ≤ 10017) (h1 : tok pos = T → Q (sI M 20 (nI (pos + 1))) 1) (h0 : ¬ tok pos = T → Q M 0) : wX6_take n M (nI T) Q := by
  obtain ⟨a, h20, -, -, -, hn⟩ := h
  have hN := hT.2.1
  have hk := (hT.2.2.2.1 pos hn).2
  unfold wX6_take
  rw [a.1 19 (by decide), hT.2.2.1, h20, nI_clamp (by omega), a.2.1 17 (by decide), (hT.2.2.2.1 pos hn).1, nI_eq (by omega) (by omega)]
  exact ⟨fun c => absurd c (nI_ge hn (by omega)), fun _ => ⟨vp_in_nI (by omega) (by decide), fun c M1 e1 => by rw [nI_1] at e1; rw [e1]; exact h1 c, h0⟩⟩
theorem z_addCode {n N pos c : Nat} {M0 M : Sg} {c0 : List Nat} {Q : Sg → Prop} (h : CS N M0 pos c0 M) (hN : N ≤ 601) (hl : c0.length + 1 ≤ pos) (hq : ∀ M', CS N M0 pos (c0 ++ [c]) M' → Q M') : wX5_addCode n M (nI c) Q := by
  obtain ⟨a, h20, h18, h15, h5, hn⟩ := h
  unfold wX5_addCode
  rw [h18]
  refine ⟨fun q => absurd q (by rw [show (600 : Int32) = nI 600 from rfl]; exact nI_ge (by omega) (by decide)), fun _ => ⟨vp_in_nI (by omega) (by decide), fun M1 e1 M2 e2 => hq M2 ?_⟩⟩
  rw [nI_clamp (by omega)] at e1
  have i18 : gI M1 18 = nI c0.length := by rw [e1]; exact h18
  rw [i18, nI_1] at e2
  subst e1 e2
  refine ⟨ag_sI (ag_sA a (by decide)) (by decide), h20, by rw [List.length_append, List.length_singleton]; rfl, fun i hi => ?_, by rw [List.length_append, List.length_singleton]; omega, hn⟩
  rw [List.length_append, List.length_singleton] at hi
  show upd (gA M 15) c0.length (nI c) i = _
  rw [z_getDp]
  by_cases z : i < c0.length
  · rw [if_pos z, pk_un (by omega)]; exact h15 i z
  · have e : i = c0.length := by omega
    rw [if_neg z, if_pos e, e, pk_us]
def Sim (N : Nat) (M0 : Sg) (W : Sg → Int32 → (Sg → Int32 → Prop) → Prop) (w : Nat) (G : Nat → PR → Prop) : Prop := ∀ (pos : Nat) (c0 : List Nat) (M : Sg) (Q : Sg → Int32 → Prop), CS N M0 pos c0 M → (∀ r M' v, G pos r → CO N M0 c0 r M' v → Q M' v) → W M (nI w) Q
theorem z_part {n N w : Nat} {tok : Nat → Nat} {M0 : Sg} {W : Sg → Int32 → (Sg → Int32 → Prop) → Prop} {F : Nat → PR → Prop} (hT : TB tok N M0) (hw : w ≤ 5) (hF : w < 5 → Sim N M0 W (w + 1) F) : Sim N M0 (wX6_readPart n W) w (PPart tok F w) := by
  intro pos c0 M Q h hq
  obtain ⟨a, h20, h18, h15, h5, hn⟩ := id h
  have hN := hT.2.1
  have hk := (hT.2.2.2.1 pos hn).2
  refine z_peek hT h ?_
  have p21 : (tok pos ≤ 10005 ∨ tok pos = 10013) → vX6_readPart_21 n W Q M (nI w) (nI (tok pos)) := by
    intro ht
    unfold vX6_readPart_21
    rw [show (5 : Int32) = nI 5 from rfl, nI_ltI (by omega) (by omega), show (10013 : Int32) = nI 10013 from rfl, nI_eq (by omega) (by omega)]
    refine ⟨fun c M1 e1 => ?_, fun c M1 e1 => ?_⟩
    · rw [h20, nI_1] at e1
      subst e1
      have hn1 : pos + 1 < N := TB_nx hT hn (by omega)
      have h1 := CS_adv h hn1
      refine ⟨fun c2 => ⟨(h1.1.1 24 (by decide)).trans hT.2.2.2.2.2.1, z_addCode h1 hN (by omega) (fun M' h' => hq (.inr (pos + 1, [tok pos])) M' 1 (Or.inr (Or.inr (Or.inl ⟨by omega, c, rfl⟩))) (Or.inr ⟨pos + 1, [tok pos], rfl, rfl, h'⟩))⟩, fun c2 => ?_⟩
      rw [nI_1]
      refine hF c (pos + 1) c0 _ _ h1 (fun r M' v hR hC => ?_)
      rcases hC with ⟨p, k, er, ev, hf⟩ | ⟨p, cs, er, ev, hc⟩
      · subst ev er
        exact ⟨fun _ => hq (.inl (p, k)) M' 0 (Or.inr (Or.inr (Or.inr ⟨c2, c, _, hR, Or.inl ⟨(p, k), rfl, rfl⟩⟩))) (Or.inl ⟨p, k, rfl, rfl, hf⟩), fun q => absurd rfl q⟩
      · subst ev er
        refine ⟨fun q => absurd q (by decide), fun _ => z_take (T := 10014) hT hc (by decide) (fun c3 => ⟨fun q => absurd q (by decide), fun _ => ?_⟩) (fun c3 => ⟨fun _ => ?_, fun q => absurd rfl q⟩)⟩
        · exact hq (.inr (p + 1, cs)) _ 1 (Or.inr (Or.inr (Or.inr ⟨c2, c, _, hR, Or.inr ⟨p, cs, rfl, Or.inl ⟨c3, rfl⟩⟩⟩))) (Or.inr ⟨p + 1, cs, rfl, rfl, CS_adv hc (TB_nx hT hc.2.2.2.2.2 (by omega))⟩)
        · exact hq (.inl (p, 1)) _ 0 (Or.inr (Or.inr (Or.inr ⟨c2, c, _, hR, Or.inr ⟨p, cs, rfl, Or.inr ⟨c3, rfl⟩⟩⟩))) (Or.inl ⟨p, 1, rfl, rfl, CS_FS hT hc⟩)
    · subst e1
      exact hq (.inl (pos, 5)) _ 0 (Or.inr (Or.inl ⟨ht, c, rfl⟩)) (Or.inl ⟨pos, 5, rfl, rfl, ag_sI (ag_mono a (by simp) (by simp)) (by decide), h20, rfl, hn⟩)
  rw [show (10005 : Int32) = nI 10005 from rfl, nI_leI (by omega) (by omega), show (10013 : Int32) = nI 10013 from rfl, nI_eq (by omega) (by omega)]
  refine ⟨fun c => p21 (Or.inl c), fun c => ⟨fun c2 => p21 (Or.inr c2), fun c2 => hq (.inl (pos, 1)) M 0 (Or.inl ⟨fun q => q.elim c c2, rfl⟩) (Or.inl ⟨pos, 1, rfl, rfl, CS_FS hT h⟩)⟩⟩
theorem z_sum {n N w : Nat} {tok : Nat → Nat} {M0 : Sg} {W : Sg → Int32 → (Sg → Int32 → Prop) → Prop} {P : Nat → PR → Prop} (hT : TB tok N M0) (hl : LNp P) (hP : Sim N M0 (wX6_readPart n W) w P) : Sim N M0 (wX6_readSum n W) w (PSum tok P) := by
  intro pos0 c0 M Q h hq
  have hN := hT.2.1
  have hc0 := h.2.2.2.2.1
  refine hP pos0 c0 M _ h (fun r M1 v hR hC => ?_)
  rcases hC with ⟨p, k, er, ev, hf⟩ | ⟨p, cs, er, ev, hc⟩
  · subst ev er
    exact ⟨fun q => absurd rfl q, fun _ => hq (.inl (p, k)) M1 0 ⟨_, hR, Or.inl ⟨(p, k), rfl, rfl⟩⟩ (Or.inl ⟨p, k, rfl, rfl, hf⟩)⟩
  · subst ev er
    have l0 := hl _ _ _ hR
    refine ⟨fun _ => ?_, fun q => absurd q (by decide)⟩
    have loop : ∀ (m pos i : Nat) (cs : List Nat) (M : Sg), N - pos ≤ m → i ≤ pos → pos0 < pos → pos0 + cs.length ≤ pos → CS N M0 pos (c0 ++ cs) M → (∀ r M' v k, PSumL tok P k pos cs r → CO N M0 c0 r M' v → Q M' v) → vX6_readSum_12 n W Q (m + 1) M (nI w) (nI i) := by
      intro m
      induction m with
      | zero => intro pos i cs M hm _ _ _ hC; exfalso; have := hC.2.2.2.2.2; omega
      | succ m ih =>
        intro pos i cs M hm hi hp0 hln hC hq
        have hn := hC.2.2.2.2.2
        have hk := (hT.2.2.2.1 pos hn).2
        refine ⟨fun q => absurd q (by rw [show (601 : Int32) = nI 601 from rfl]; exact nI_ge (by omega) (by decide)), fun _ => z_peek hT hC ?_⟩
        have s40 : (tok pos = 10006 ∨ tok pos = 10007) → vX6_readSum_40 n W (vX6_readSum_12 n W Q (m + 1)) Q M (nI w) (nI i) (nI (tok pos)) := by
          intro ht M2 e2
          rw [hC.2.1, nI_1] at e2
          subst e2
          have h1 := CS_adv hC (TB_nx hT hn (by omega))
          refine hP (pos + 1) (c0 ++ cs) _ _ h1 (fun r M' v hR' hC' => ?_)
          rcases hC' with ⟨p, k, er, ev, hf⟩ | ⟨p, c, er, ev, hc⟩
          · subst ev er
            exact ⟨fun q => absurd rfl q, fun _ => hq (.inl (p, k)) M' 0 1 (Or.inr ⟨ht, _, hR', Or.inl ⟨(p, k), rfl, rfl⟩⟩) (Or.inl ⟨p, k, rfl, rfl, hf⟩)⟩
          · subst ev er
            have l1 := hl _ _ _ hR'
            refine ⟨fun _ => ⟨(hc.1.1 24 (by decide)).trans hT.2.2.2.2.2.1, z_addCode hc hN (by rw [List.length_append, List.length_append]; omega) (fun M3 h3 y ey => ?_)⟩, fun q => absurd q (by decide)⟩
            rw [ey, nI_1]
            have h3' : CS N M0 p (c0 ++ (cs ++ c ++ [tok pos])) M3 := by
              rw [← List.append_assoc, ← List.append_assoc]; exact h3
            exact ih p (i + 1) (cs ++ c ++ [tok pos]) M3 (by omega) (by omega) (by omega) (by rw [List.length_append, List.length_append, List.length_singleton]; omega) h3' (fun r M4 v k hk' hC4 => hq r M4 v (k + 1) (Or.inr ⟨ht, _, hR', Or.inr ⟨p, c, rfl, hk'⟩⟩) hC4)
        rw [show (10006 : Int32) = nI 10006 from rfl, nI_eq (by omega) (by omega), show (10007 : Int32) = nI 10007 from rfl, nI_eq (by omega) (by omega)]
        exact ⟨fun c => s40 (Or.inl c), fun c => ⟨fun c2 => s40 (Or.inr c2), fun c2 => hq (.inr (pos, cs)) M 1 1 (Or.inl ⟨fun q => q.elim c c2, rfl⟩) (Or.inr ⟨pos, cs, rfl, rfl, hC⟩)⟩⟩
    exact ⟨_, loop (N - p) p 0 cs M1 (Nat.le_refl _) (Nat.zero_le p) l0.1 l0.2 hc (fun r M' v k hk hC => hq r M' v ⟨_, hR, Or.inr ⟨p, cs, k, rfl, hk⟩⟩ hC)⟩
theorem z_test {n N w : Nat} {tok : Nat → Nat} {M0 : Sg} {W : Sg → Int32 → (Sg → Int32 → Prop) → Prop} {S : Nat → PR → Prop} (hT : TB tok N M0) (hl : LNp S) (hS : Sim N M0 (wX6_readSum n W) w S) : Sim N M0 (wX6_readTest n W) w (PTest tok S) := by
  intro pos0 c0 M Q h hq
  have hN := hT.2.1
  have hc0 := h.2.2.2.2.1
  refine hS pos0 c0 M _ h (fun r M1 v hR hC => ?_)
  rcases hC with ⟨p, k, er, ev, hf⟩ | ⟨p, cs, er, ev, hc⟩
  · subst ev er
    exact ⟨fun q => absurd rfl q, fun _ => hq (.inl (p, k)) M1 0 ⟨_, hR, Or.inl ⟨(p, k), rfl, rfl⟩⟩ (Or.inl ⟨p, k, rfl, rfl, hf⟩)⟩
  · subst ev er
    have l0 := hl _ _ _ hR
    have hn := hc.2.2.2.2.2
    have hk := (hT.2.2.2.1 p hn).2
    refine ⟨fun _ => z_peek hT hc ?_, fun q => absurd q (by decide)⟩
    have s31 : (tok p = 10008 ∨ tok p = 10009) → vX6_readTest_31 n W Q M1 (nI w) (nI (tok p)) := by
      intro ht M2 e2
      rw [hc.2.1, nI_1] at e2
      subst e2
      have h1 := CS_adv hc (TB_nx hT hn (by omega))
      refine hS (p + 1) (c0 ++ cs) _ _ h1 (fun r M' v hR' hC' => ?_)
      rcases hC' with ⟨p2, k, er, ev, hf⟩ | ⟨p2, c, er, ev, hc2⟩
      · subst ev er
        exact ⟨fun q => absurd rfl q, fun _ => hq (.inl (p2, k)) M' 0 ⟨_, hR, Or.inr ⟨p, cs, rfl, Or.inr ⟨ht, _, hR', Or.inl ⟨(p2, k), rfl, rfl⟩⟩⟩⟩ (Or.inl ⟨p2, k, rfl, rfl, hf⟩)⟩
      · subst ev er
        have l1 := hl _ _ _ hR'
        refine ⟨fun _ => ⟨(hc2.1.1 24 (by decide)).trans hT.2.2.2.2.2.1, z_addCode hc2 hN (by rw [List.length_append, List.length_append]; omega) (fun M3 h3 => ?_)⟩, fun q => absurd q (by decide)⟩
        refine hq (.inr (p2, cs ++ c ++ [tok p])) M3 1 ⟨_, hR, Or.inr ⟨p, cs, rfl, Or.inr ⟨ht, _, hR', Or.inr ⟨p2, c, rfl, rfl⟩⟩⟩⟩ (Or.inr ⟨p2, _, rfl, rfl, ?_⟩)
        rw [← List.append_assoc, ← List.append_assoc]
        exact h3
    rw [show (10008 : Int32) = nI 10008 from rfl, nI_eq (by omega) (by omega), show (10009 : Int32) = nI 10009 from rfl, nI_eq (by omega) (by omega)]
    exact ⟨fun c => s31 (Or.inl c), fun c => ⟨fun c2 => s31 (Or.inr c2), fun c2 => hq (.inr (p, cs)) M1 1 ⟨_, hR, Or.inr ⟨p, cs, rfl, Or.inl ⟨fun q => q.elim c c2, rfl⟩⟩⟩ (Or.inr ⟨p, cs, rfl, rfl, hc⟩)⟩⟩
theorem z_condR {n N w : Nat} {tok : Nat → Nat} {M0 : Sg} {W : Sg → Int32 → (Sg → Int32 → Prop) → Prop} {P : Nat → PR → Prop} (hT : TB tok N M0) (hl : LNp P) (hP : Sim N M0 (wX6_readTest n W) w P) : Sim N M0 (wX6_readCondition_b n W) w (PCondR tok P) := by
  intro pos0 c0 M Q h hq
  have hN := hT.2.1
  have hc0 := h.2.2.2.2.1
  refine hP pos0 c0 M _ h (fun r M1 v hR hC => ?_)
  rcases hC with ⟨p, k, er, ev, hf⟩ | ⟨p, cs, er, ev, hc⟩
  · subst ev er
    exact ⟨fun q => absurd rfl q, fun _ => hq (.inl (p, k)) M1 0 ⟨_, hR, Or.inl ⟨(p, k), rfl, rfl⟩⟩ (Or.inl ⟨p, k, rfl, rfl, hf⟩)⟩
  · subst ev er
    have l0 := hl _ _ _ hR
    refine ⟨fun _ => ?_, fun q => absurd q (by decide)⟩
    have loop : ∀ (m pos i : Nat) (cs : List Nat) (M : Sg), N - pos ≤ m → i ≤ pos → pos0 < pos → pos0 + cs.length ≤ pos → CS N M0 pos (c0 ++ cs) M → (∀ r M' v k, PCondL tok P k pos cs r → CO N M0 c0 r M' v → Q M' v) → vX6_readCondition_12 n W Q (m + 1) M (nI w) (nI i) := by
      intro m
      induction m with
      | zero => intro pos i cs M hm _ _ _ hC; exfalso; have := hC.2.2.2.2.2; omega
      | succ m ih =>
        intro pos i cs M hm hi hp0 hln hC hq
        have hn := hC.2.2.2.2.2
        refine ⟨fun q => absurd q (by rw [show (601 : Int32) = nI 601 from rfl]; exact nI_ge (by omega) (by decide)), fun _ => z_take (T := 10010) hT hC (by decide) (fun ht => ⟨fun q => absurd q (by decide), fun _ => ?_⟩) (fun ht => ⟨fun _ => ?_, fun q => absurd rfl q⟩)⟩
        · have h1 := CS_adv hC (TB_nx hT hn (by omega))
          refine hP (pos + 1) (c0 ++ cs) _ _ h1 (fun r M' v hR' hC' => ?_)
          rcases hC' with ⟨p, k, er, ev, hf⟩ | ⟨p, c, er, ev, hc⟩
          · subst ev er
            exact ⟨fun q => absurd rfl q, fun _ => hq (.inl (p, k)) M' 0 1 (Or.inr ⟨ht, _, hR', Or.inl ⟨(p, k), rfl, rfl⟩⟩) (Or.inl ⟨p, k, rfl, rfl, hf⟩)⟩
          · subst ev er
            have l1 := hl _ _ _ hR'
            refine ⟨fun _ => ⟨(hc.1.1 24 (by decide)).trans hT.2.2.2.2.2.1, z_addCode (c := 10010) hc hN (by rw [List.length_append, List.length_append]; omega) (fun M3 h3 y ey => ?_)⟩, fun q => absurd q (by decide)⟩
            rw [ey, nI_1]
            have h3' : CS N M0 p (c0 ++ (cs ++ c ++ [10010])) M3 := by
              rw [← List.append_assoc, ← List.append_assoc]; exact h3
            exact ih p (i + 1) (cs ++ c ++ [10010]) M3 (by omega) (by omega) (by omega) (by rw [List.length_append, List.length_append, List.length_singleton]; omega) h3' (fun r M4 v k hk' hC4 => hq r M4 v (k + 1) (Or.inr ⟨ht, _, hR', Or.inr ⟨p, c, rfl, hk'⟩⟩) hC4)
        · exact hq (.inr (pos, cs)) M 1 1 (Or.inl ⟨ht, rfl⟩) (Or.inr ⟨pos, cs, rfl, rfl, hC⟩)
    exact ⟨_, loop (N - p) p 0 cs M1 (Nat.le_refl _) (Nat.zero_le p) l0.1 l0.2 hc (fun r M' v k hk hC => hq r M' v ⟨_, hR, Or.inr ⟨p, cs, k, rfl, hk⟩⟩ hC)⟩
theorem z_cond {n N : Nat} {tok : Nat → Nat} {M0 : Sg} (hT : TB tok N M0) : ∀ (d w : Nat), w ≤ 5 → 6 ≤ w + d → Sim N M0 (wX6_readCondition n d) w (PCond tok d w) := by
  intro d
  induction d with
  | zero => intro w h1 h2; omega
  | succ d ih =>
    intro w h1 h2
    exact z_condR hT (ln_test (ln_sum (ln_part (ln_cond d (w + 1))))) (z_test hT (ln_sum (ln_part (ln_cond d (w + 1)))) (z_sum hT (ln_part (ln_cond d (w + 1))) (z_part hT h1 (fun c => ih (w + 1) (by omega) (by omega)))))
/-! lines -/
abbrev PL : Type := Sum (Nat × Nat) (Nat × (Nat × List Nat))
def PLine (tok : Nat → Nat) (ln pos : Nat) (r : PL) : Prop :=
  (¬ tok pos = 10011 ∧ r = .inl (pos, 1)) ∨ (tok pos = 10011 ∧ ¬ ln < 16 ∧ r = .inl (pos, 5)) ∨ (tok pos = 10011 ∧ ln < 16 ∧ (
    (9999 < tok (pos + 1) ∧ r = .inl (pos + 1, 1)) ∨ (99 < tok (pos + 1) ∧ tok (pos + 1) ≤ 9999 ∧ r = .inl (pos + 1, 4)) ∨ (tok (pos + 1) ≤ 99 ∧ (
      (¬ tok (pos + 2) = 10012 ∧ r = .inl (pos + 2, 1)) ∨ (tok (pos + 2) = 10012 ∧ ∃ r', PCond tok 7 0 (pos + 3) r' ∧ ((∃ e, r' = .inl e ∧ r = .inl e) ∨ ∃ p cs, r' = .inr (p, cs) ∧ ((tok p = 10015 ∧ r = .inr (p + 1, (tok (pos + 1), cs))) ∨ (¬ tok p = 10015 ∧ r = .inl (p, 1))))))))) 
abbrev PT : Type := Sum (Nat × Nat) (List (Nat × List Nat))
def PText (tok : Nat → Nat) : Nat → Nat → List (Nat × List Nat) → PT → Prop
  | 0, _, _, _ => False
  | k + 1, pos, ls, r => (tok pos = 10016 ∧ r = .inr ls) ∨ (¬ tok pos = 10016 ∧ ∃ r', PLine tok ls.length pos r' ∧ ((∃ e, r' = .inl e ∧ r = .inl e) ∨ ∃ p l, r' = .inr (p, l) ∧ PText tok k p (ls ++ [l]) r))
def cat (ls : List (Nat × List Nat)) : List Nat := ls.flatMap (fun l => l.2)
theorem cat_s (ls : List (Nat × List Nat)) (l : Nat × List Nat) : cat (ls ++ [l]) = cat ls ++ l.2 := by
  unfold cat
  rw [List.flatMap_append, List.flatMap_cons, List.flatMap_nil, List.append_nil]
/-- the class's text that is being read -/
def LnS (N : Nat) (M0 : Sg) (pos : Nat) (ls : List (Nat × List Nat)) (M : Sg) : Prop := ag [17, 18, 20] [13, 14, 15] M0 M ∧ gI M 20 = nI pos ∧ gI M 18 = nI (cat ls).length ∧ (∀ i, i < (cat ls).length → gA M 15 i = nI ((cat ls).getD i 0)) ∧ (cat ls).length ≤ pos ∧ pos < N ∧ gI M 17 = nI ls.length ∧ ls.length ≤ 16 ∧ ∀ i, i < ls.length → gA M 13 i = nI (ls.getD i (0, [])).1 ∧ gA M 14 i = nI (cat (ls.take (i + 1))).length
theorem TB_ag {tok : Nat → Nat} {N : Nat} {M0 M : Sg} {I A : List Nat} (h : TB tok N M0) (a : ag I A M0 M) (h19 : 19 ∉ I) (h24 : 24 ∉ I) (h21 : 21 ∉ I) (h17 : 17 ∉ A) : TB tok N M := ⟨h.1, h.2.1, (a.1 19 h19).trans h.2.2.1, fun i hi => by rw [a.2.1 17 h17]; exact h.2.2.2.1 i hi, h.2.2.2.2.1, (a.1 24 h24).trans h.2.2.2.2.2.1, (a.1 21 h21).trans h.2.2.2.2.2.2⟩
def FL (N : Nat) (M0 : Sg) (p k : Nat) (M : Sg) : Prop := ag [17, 18, 20, 21] [13, 14, 15] M0 M ∧ gI M 20 = nI p ∧ gI M 21 = nI k ∧ p < N
theorem z_line {n N pos : Nat} {tok : Nat → Nat} {M0 M : Sg} {ls : List (Nat × List Nat)} {Q : Sg → Int32 → Prop} (hT0 : TB tok N M0) (h : LnS N M0 pos ls M) (hq0 : ∀ p k M', PLine tok ls.length pos (.inl (p, k)) → FL N M0 p k M' → Q M' 0) (hq1 : ∀ p l M', PLine tok ls.length pos (.inr (p, l)) → LnS N M0 p (ls ++ [l]) M' → Q M' 1) : wX6_readLine n M Q := by
  obtain ⟨a, h20, h18, h15, hlp, hn, h17, hl16, hrow⟩ := id h
  have hN := hT0.2.1
  have hT : TB tok N M := TB_ag hT0 a (by decide) (by decide) (by decide) (by decide)
  have hC : CS N M pos (cat ls) M := ⟨ag_rf, h20, h18, h15, hlp, hn⟩
  have hk := (hT.2.2.2.1 pos hn).2
  have fl : ∀ p k M', FS N M p k M' → FL N M0 p k M' := fun p k M' hf => ⟨ag_tr (ag_mono a (by simp) (by simp)) (ag_mono hf.1 (by simp) (by simp)), hf.2⟩
  refine z_peek hT hC ?_
  rw [show (10011 : Int32) = nI 10011 from rfl, nI_eq (by omega) (by omega), h17, show (16 : Int32) = nI 16 from rfl, nI_ltI (by omega) (by omega)]
  have l29 : (tok pos = 10011 → ls.length < 16) → vX6_readLine_29 n Q M := by
    intro hlt
    refine z_take (T := 10011) hT hC (by decide) (fun c1 => ⟨fun _ => ?_, fun q => absurd q (by decide)⟩) (fun c1 => ⟨fun q => absurd rfl q, fun _ => hq0 pos 1 M (Or.inl ⟨c1, rfl⟩) (fl _ _ _ (CS_FS hT hC))⟩)
    have hn1 : pos + 1 < N := TB_nx hT hn (by omega)
    have h1 := CS_adv hC hn1
    have hk1 := (hT.2.2.2.1 (pos + 1) hn1).2
    have lt16 := hlt c1
    refine z_peek hT h1 ?_
    rw [show (99 : Int32) = nI 99 from rfl, nI_leI (by omega) (by omega), show (9999 : Int32) = nI 9999 from rfl, nI_ltI (by omega) (by omega)]
    refine ⟨fun c2 M5 e5 => ?_, fun c2 => ⟨fun c3 M5 e5 => ?_, fun c3 M5 e5 => ?_⟩⟩
    · rw [h1.2.1, nI_1] at e5
      subst e5
      have hn2 : pos + 1 + 1 < N := TB_nx hT hn1 (by omega)
      have h2 := CS_adv h1 hn2
      refine z_take (T := 10012) hT h2 (by decide) (fun c3 => ⟨fun q => absurd q (by decide), fun _ => ?_⟩) (fun c3 => ⟨fun _ => hq0 (pos + 2) 1 _ (Or.inr (Or.inr ⟨c1, lt16, Or.inr (Or.inr ⟨c2, Or.inl ⟨c3, rfl⟩⟩)⟩)) (fl _ _ _ (CS_FS hT h2)), fun q => absurd rfl q⟩)
      have hn3 : pos + 1 + 1 + 1 < N := TB_nx hT hn2 (fun q => absurd (c3.symm.trans q) (by decide))
      have h3 := CS_adv h2 hn3
      refine z_cond hT 7 0 (by decide) (by decide) (pos + 3) (cat ls) _ _ h3 (fun r M' v hR hCO => ?_)
      rcases hCO with ⟨p, k, er, ev, hf⟩ | ⟨p, cs, er, ev, hc⟩
      · subst ev er
        exact ⟨fun _ => hq0 p k M' (Or.inr (Or.inr ⟨c1, lt16, Or.inr (Or.inr ⟨c2, Or.inr ⟨c3, _, hR, Or.inl ⟨(p, k), rfl, rfl⟩⟩⟩)⟩)) (fl _ _ _ hf), fun q => absurd rfl q⟩
      · subst ev er
        refine ⟨fun q => absurd q (by decide), fun _ => z_take (T := 10015) hT hc (by decide) (fun c4 => ⟨fun _ => ⟨?_, ?_⟩, fun q => absurd q (by decide)⟩) (fun c4 => ⟨fun q => absurd rfl q, fun _ => ?_⟩)⟩
        · exact (hc.1.1 24 (by decide)).trans hT.2.2.2.2.2.1
        · have hn4 : p + 1 < N := TB_nx hT hc.2.2.2.2.2 (by omega)
          have h4 := CS_adv hc hn4
          obtain ⟨a4, i20, i18, i15, ilp, -⟩ := id h4
          have i17 : gI (sI M' 20 (nI (p + 1))) 17 = nI ls.length := (a4.1 17 (by decide)).trans h17
          unfold wX5_addLine
          rw [i17]
          have hin : vp_in (nI ls.length) 16 := vp_in_nI lt16 (by decide)
          refine ⟨fun q => absurd q (by rw [show (16 : Int32) = nI 16 from rfl]; exact nI_ge lt16 (by decide)), fun _ => ⟨hin, fun Ma ea => ?_⟩⟩
          have j17 : gI Ma 17 = nI ls.length := by rw [ea]; exact i17
          rw [j17]
          refine ⟨hin, fun Mb eb Mc ec => ?_⟩
          have k17 : gI Mb 17 = nI ls.length := by rw [eb]; exact j17
          have k18 : gI Ma 18 = nI (cat ls ++ cs).length := by rw [ea]; exact i18
          rw [nI_clamp (by omega)] at ea eb
          rw [k18] at eb
          rw [k17, nI_1] at ec
          refine hq1 (p + 1) (tok (pos + 1), cs) Mc (Or.inr (Or.inr ⟨c1, lt16, Or.inr (Or.inr ⟨c2, Or.inr ⟨c3, _, hR, Or.inr ⟨p, cs, rfl, Or.inl ⟨c4, rfl⟩⟩⟩⟩)⟩)) ?_
          subst ea eb ec
          refine ⟨ag_sI (ag_sA (ag_sA (ag_tr a (ag_mono a4 (by simp) (by simp))) (by decide)) (by decide)) (by decide), i20, by rw [cat_s]; exact i18, by rw [cat_s]; exact i15, by rw [cat_s]; exact ilp, hn4, by rw [show (ls ++ [(tok (pos + 1), cs)]).length = ls.length + 1 by rw [List.length_append, List.length_singleton]]; rfl, by rw [List.length_append, List.length_singleton]; omega, fun i hi => ?_⟩
          rw [List.length_append, List.length_singleton] at hi
          show upd (gA M' 13) ls.length _ i = _ ∧ upd (gA M' 14) ls.length _ i = _
          rw [z_getDp]
          by_cases z : i < ls.length
          · rw [if_pos z, pk_un (by omega), pk_un (by omega), List.take_append_of_le_length (by omega)]
            have a5 : ag [18, 20] [15] M M' := hc.1
            rw [a5.2.1 13 (by decide), a5.2.1 14 (by decide)]
            exact hrow i z
          · have e : i = ls.length := by omega
            rw [if_neg z, if_pos e, e, pk_us, pk_us, List.take_of_length_le (by rw [List.length_append, List.length_singleton]; omega), cat_s]
            exact ⟨rfl, rfl⟩
        · exact hq0 p 1 M' (Or.inr (Or.inr ⟨c1, lt16, Or.inr (Or.inr ⟨c2, Or.inr ⟨c3, _, hR, Or.inr ⟨p, cs, rfl, Or.inr ⟨c4, rfl⟩⟩⟩⟩)⟩)) (fl _ _ _ (CS_FS hT hc))
    · subst e5
      exact hq0 (pos + 1) 1 _ (Or.inr (Or.inr ⟨c1, lt16, Or.inl ⟨c3, rfl⟩⟩)) (fl _ _ _ ⟨ag_sI (ag_mono h1.1 (by simp) (by simp)) (by decide), rfl, rfl, hn1⟩)
    · subst e5
      exact hq0 (pos + 1) 4 _ (Or.inr (Or.inr ⟨c1, lt16, Or.inr (Or.inl ⟨by omega, by omega, rfl⟩)⟩)) (fl _ _ _ ⟨ag_sI (ag_mono h1.1 (by simp) (by simp)) (by decide), rfl, rfl, hn1⟩)
  refine ⟨fun c => l29 (fun q => absurd q c), fun c => ⟨hT.2.2.2.2.2.1, fun c2 => l29 (fun _ => c2), fun c2 M3 e3 => ?_⟩⟩
  subst e3
  exact hq0 pos 5 _ (Or.inr (Or.inl ⟨c, c2, rfl⟩)) ⟨ag_sI (ag_mono a (by simp) (by simp)) (by decide), h20, rfl, hn⟩
theorem z_text {n N : Nat} {tok pls : Nat → Nat} {M0 : Sg} {Q : Sg → Int32 → Prop} (hT : TB tok N M0) (hp : ∀ i, i < N → gA M0 18 i = nI (pls i)) : ∀ (m pos : Nat) (ls : List (Nat × List Nat)) (M : Sg), 17 - ls.length ≤ m → LnS N M0 pos ls M → (∀ p k M' j, PText tok j pos ls (.inl (p, k)) → p < N → ag [17, 18, 20, 21] [13, 14, 15] M0 M' → Q M' (nI k + 16 * nI (pls p))) → (∀ ls' M' j p', PText tok j pos ls (.inr ls') → LnS N M0 p' ls' M' → Q M' 0) → vX6_read_44 n Q (m + 1) M (nI ls.length) := by
  have hN := hT.2.1
  intro m
  induction m with
  | zero => intro pos ls M hm h; exfalso; have := h.2.2.2.2.2.2.2.1; omega
  | succ m ih =>
    intro pos ls M hm h hq0 hq1
    have hTM : TB tok N M := TB_ag hT h.1 (by decide) (by decide) (by decide) (by decide)
    have hn := h.2.2.2.2.2.1
    have hl16 := h.2.2.2.2.2.2.2.1
    have hC : CS N M pos (cat ls) M := ⟨ag_rf, h.2.1, h.2.2.1, h.2.2.2.1, h.2.2.2.2.1, hn⟩
    have hk := (hTM.2.2.2.1 pos hn).2
    refine ⟨fun q => absurd q (by rw [show (16 : Int32) = nI 16 from rfl]; exact nI_nlt hl16 (by decide)), fun _ => z_peek hTM hC ?_⟩
    rw [show (10016 : Int32) = nI 10016 from rfl, nI_eq (by omega) (by omega)]
    refine ⟨fun c => hq1 ls M 1 pos (Or.inl ⟨c, rfl⟩) h, fun c => ?_⟩
    refine z_line hT h (fun p k M' hP hF => ⟨fun q => absurd rfl q, fun _ => ?_⟩) (fun p l M' hP hL => ⟨fun _ y ey => ?_, fun q => absurd q (by decide)⟩)
    · obtain ⟨f1, f2, f3, f4⟩ := hF
      unfold wX6_placeOfNext
      rw [f1.1 19 (by decide), hT.2.2.1, f2, nI_clamp (by omega), f1.2.1 18 (by decide), hp p f4, f3]
      exact ⟨fun q => absurd q (nI_ge f4 (by omega)), fun _ => ⟨vp_in_nI (by omega) (by decide), hq0 p k M' 1 (Or.inr ⟨c, _, hP, Or.inl ⟨(p, k), rfl, rfl⟩⟩) f4 f1⟩⟩
    · rw [ey, nI_1, show ls.length + 1 = (ls ++ [l]).length by rw [List.length_append, List.length_singleton]]
      exact ih p (ls ++ [l]) M' (by rw [List.length_append, List.length_singleton]; omega) hL (fun p' k M'' j hP' => hq0 p' k M'' (j + 1) (Or.inr ⟨c, _, hP, Or.inr ⟨p, l, rfl, hP'⟩⟩)) (fun ls' M'' j p' hP' => hq1 ls' M'' (j + 1) p' (Or.inr ⟨c, _, hP, Or.inr ⟨p, l, rfl, hP'⟩⟩))
