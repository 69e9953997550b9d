/-! texts: heights, kinds of faults, and text() on both sides -/
def hL : List Nat → Nat → Nat → Prop
  | [], h, h' => h' = h
  | c :: cs, h, h' => if c ≤ 10005 then h < 16 ∧ hL cs (h + 1) h' else 2 ≤ h ∧ hL cs (h - 1) h'
theorem hL_app {b : List Nat} {h1 h2 : Nat} : ∀ {a : List Nat} {h : Nat}, hL a h h1 → hL b h1 h2 → hL (a ++ b) h h2 := by
  intro a
  induction a with
  | nil =>
    intro h e g
    have e : h1 = h := e
    rw [e] at g
    exact g
  | cons c a ih =>
    intro h e g
    show if c ≤ 10005 then h < 16 ∧ hL (a ++ b) (h + 1) h2 else 2 ≤ h ∧ hL (a ++ b) (h - 1) h2
    have e : if c ≤ 10005 then h < 16 ∧ hL a (h + 1) h1 else 2 ≤ h ∧ hL a (h - 1) h1 := e
    by_cases q : c ≤ 10005
    · rw [if_pos q] at e ⊢; exact ⟨e.1, ih e.2 g⟩
    · rw [if_neg q] at e ⊢; exact ⟨e.1, ih e.2 g⟩
theorem hL_op {c h : Nat} (hc : ¬ c ≤ 10005) : hL [c] (h + 2) (h + 1) := by
  show if c ≤ 10005 then h + 2 < 16 ∧ hL [] (h + 2 + 1) (h + 1) else 2 ≤ h + 2 ∧ hL [] (h + 2 - 1) (h + 1)
  rw [if_neg hc]
  exact ⟨by omega, rfl⟩
def HG (h0 : Nat) (G : Nat → PR → Prop) : Prop := ∀ pos p cs, G pos (.inr (p, cs)) → (∀ c, c ∈ cs → c ≤ 10010) ∧ ∀ h, h ≤ h0 → hL cs h (h + 1)
def KB (G : Nat → PR → Prop) : Prop := ∀ pos p k, G pos (.inl (p, k)) → 1 ≤ k ∧ k ≤ 5
theorem mem3 {a b : List Nat} {o : Nat} (ha : ∀ c, c ∈ a → c ≤ 10010) (hb : ∀ c, c ∈ b → c ≤ 10010) (ho : o ≤ 10010) : ∀ c, c ∈ a ++ b ++ [o] → c ≤ 10010 := by
  intro c hc
  rw [List.mem_append, List.mem_append, List.mem_singleton] at hc
  rcases hc with (hc | hc) | hc
  · exact ha c hc
  · exact hb c hc
  · omega
theorem hg_part {tok : Nat → Nat} {F : Nat → PR → Prop} {w : Nat} (hF : w < 5 → HG (3 * (w + 1)) F) : HG (3 * w + 3) (PPart tok F w) := by
  intro pos p cs hP
  rcases hP with ⟨-, e⟩ | ⟨-, -, e⟩ | ⟨c1, c2, e⟩ | ⟨-, c2, r', hR, ⟨e0, e1, e2⟩ | ⟨p', cs', e1, ⟨-, e2⟩ | ⟨-, e2⟩⟩⟩
  · exact absurd e (by simp)
  · exact absurd e (by simp)
  · injection e with e; injection e with e1 e2; subst e1 e2
    refine ⟨fun c hc => ?_, fun h hh => ?_⟩
    · rw [List.mem_singleton] at hc; omega
    · show if tok pos ≤ 10005 then h < 16 ∧ hL [] (h + 1) (h + 1) else 2 ≤ h ∧ hL [] (h - 1) (h + 1)
      rw [if_pos c1]
      exact ⟨by omega, rfl⟩
  · exact absurd e2 (by simp)
  · injection e2 with e2; injection e2 with e3 e4; subst e3 e4 e1
    exact hF c2 _ _ _ hR
  · exact absurd e2 (by simp)
theorem hg_sumL {tok : Nat → Nat} {P : Nat → PR → Prop} {h0 : Nat} (h : HG (h0 + 1) P) : ∀ (k pos : Nat) (cs : List Nat) (p : Nat) (c : List Nat), ((∀ c, c ∈ cs → c ≤ 10010) ∧ ∀ h, h ≤ h0 → hL cs h (h + 1)) → PSumL tok P k pos cs (.inr (p, c)) → (∀ x, x ∈ c → x ≤ 10010) ∧ ∀ h, h ≤ h0 → hL c h (h + 1) := by
  intro k
  induction k with
  | zero => intro _ _ _ _ _ h; exact h.elim
  | succ k ih =>
    intro pos cs p c hc hP
    rcases hP with ⟨-, e⟩ | ⟨ht, r', hF, ⟨e0, e1, e2⟩ | ⟨p', c', e1, hR⟩⟩
    · injection e with e; injection e with e1 e2; subst e1 e2; exact hc
    · exact absurd e2 (by simp)
    · subst e1
      have g := h _ _ _ hF
      refine ih p' _ p c ⟨mem3 hc.1 g.1 (by omega), fun h hh => hL_app (hL_app (hc.2 h hh) (g.2 (h + 1) (by omega))) (hL_op (by omega))⟩ hR
theorem hg_sum {tok : Nat → Nat} {P : Nat → PR → Prop} {h0 : Nat} (h : HG (h0 + 1) P) : HG h0 (PSum tok P) := by
  intro pos p cs hP
  obtain ⟨r', hF, ⟨e0, e1, e2⟩ | ⟨p', c', k, e1, hR⟩⟩ := hP
  · exact absurd e2 (by simp)
  · subst e1
    have g := h _ _ _ hF
    exact hg_sumL h k p' c' p cs ⟨g.1, fun h hh => g.2 h (by omega)⟩ hR
theorem hg_test {tok : Nat → Nat} {S : Nat → PR → Prop} {h0 : Nat} (h : HG (h0 + 1) S) : HG h0 (PTest tok S) := by
  intro pos p cs hP
  obtain ⟨r', hF, ⟨e0, e1, e2⟩ | ⟨p', c', e1, ⟨-, e⟩ | ⟨ht, r2, hF2, ⟨e0, e2, e3⟩ | ⟨p2, c2, e2, e3⟩⟩⟩⟩ := hP
  · exact absurd e2 (by simp)
  · subst e1
    injection e with e; injection e with e1 e2; subst e1 e2
    have g := h _ _ _ hF
    exact ⟨g.1, fun h hh => g.2 h (by omega)⟩
  · exact absurd e3 (by simp)
  · subst e1 e2
    injection e3 with e; injection e with e1 e2; subst e1 e2
    have a := h _ _ _ hF
    have b := h _ _ _ hF2
    exact ⟨mem3 a.1 b.1 (by omega), fun h hh => hL_app (hL_app (a.2 h (by omega)) (b.2 (h + 1) (by omega))) (hL_op (by omega))⟩
theorem hg_condL {tok : Nat → Nat} {P : Nat → PR → Prop} {h0 : Nat} (h : HG (h0 + 1) P) : ∀ (k pos : Nat) (cs : List Nat) (p : Nat) (c : List Nat), ((∀ c, c ∈ cs → c ≤ 10010) ∧ ∀ h, h ≤ h0 → hL cs h (h + 1)) → PCondL tok P k pos cs (.inr (p, c)) → (∀ x, x ∈ c → x ≤ 10010) ∧ ∀ h, h ≤ h0 → hL c h (h + 1) := by
  intro k
  induction k with
  | zero => intro _ _ _ _ _ h; exact h.elim
  | succ k ih =>
    intro pos cs p c hc hP
    rcases hP with ⟨-, e⟩ | ⟨ht, r', hF, ⟨e0, e1, e2⟩ | ⟨p', c', e1, hR⟩⟩
    · injection e with e; injection e with e1 e2; subst e1 e2; exact hc
    · exact absurd e2 (by simp)
    · subst e1
      have g := h _ _ _ hF
      refine ih p' _ p c ⟨mem3 hc.1 g.1 (by omega), fun h hh => hL_app (hL_app (hc.2 h hh) (g.2 (h + 1) (by omega))) (hL_op (by omega))⟩ hR
theorem hg_condR {tok : Nat → Nat} {P : Nat → PR → Prop} {h0 : Nat} (h : HG (h0 + 1) P) : HG h0 (PCondR tok P) := by
  intro pos p cs hP
  obtain ⟨r', hF, ⟨e0, e1, e2⟩ | ⟨p', c', k, e1, hR⟩⟩ := hP
  · exact absurd e2 (by simp)
  · subst e1
    have g := h _ _ _ hF
    exact hg_condL h k p' c' p cs ⟨g.1, fun h hh => g.2 h (by omega)⟩ hR
theorem hg_cond {tok : Nat → Nat} : ∀ (d w : Nat), HG (3 * w) (PCond tok d w) := by
  intro d
  induction d with
  | zero => intro w pos p cs h; exact h.elim
  | succ d ih => intro w; exact hg_condR (hg_test (hg_sum (hg_part (fun _ => ih (w + 1)))))
theorem kb_part {tok : Nat → Nat} {F : Nat → PR → Prop} {w : Nat} (hF : KB F) : KB (PPart tok F w) := by
  intro pos p k hP
  rcases hP with ⟨-, e⟩ | ⟨-, -, e⟩ | ⟨c1, c2, e⟩ | ⟨-, c2, r', hR, ⟨e0, e1, e2⟩ | ⟨p', cs', e1, ⟨-, e2⟩ | ⟨-, e2⟩⟩⟩
  · injection e with e; injection e with e1 e2; omega
  · injection e with e; injection e with e1 e2; omega
  · exact absurd e (by simp)
  · injection e2 with e2; subst e2 e1; exact hF _ _ _ hR
  · exact absurd e2 (by simp)
  · injection e2 with e2; injection e2 with e3 e4; omega
theorem kb_sum {tok : Nat → Nat} {P : Nat → PR → Prop} (h : KB P) : KB (PSum tok P) := by
  have hl : ∀ (j pos : Nat) (cs : List Nat) (p k : Nat), PSumL tok P j pos cs (.inl (p, k)) → 1 ≤ k ∧ k ≤ 5 := by
    intro j
    induction j with
    | zero => intro _ _ _ _ h; exact h.elim
    | succ j ih =>
      intro pos cs p k hP
      rcases hP with ⟨-, e⟩ | ⟨ht, r', hF, ⟨e0, e1, e2⟩ | ⟨p', c', e1, hR⟩⟩
      · exact absurd e (by simp)
      · injection e2 with e2; subst e2 e1; exact h _ _ _ hF
      · exact ih _ _ _ _ hR
  intro pos p k hP
  obtain ⟨r', hF, ⟨e0, e1, e2⟩ | ⟨p', c', j, e1, hR⟩⟩ := hP
  · injection e2 with e2; subst e2 e1; exact h _ _ _ hF
  · exact hl _ _ _ _ _ hR
theorem kb_test {tok : Nat → Nat} {S : Nat → PR → Prop} (h : KB S) : KB (PTest tok S) := by
  intro pos p k hP
  obtain ⟨r', hF, ⟨e0, e1, e2⟩ | ⟨p', c', e1, ⟨-, e⟩ | ⟨ht, r2, hF2, ⟨e0, e2, e3⟩ | ⟨p2, c2, e2, e3⟩⟩⟩⟩ := hP
  · injection e2 with e2; subst e2 e1; exact h _ _ _ hF
  · exact absurd e (by simp)
  · injection e3 with e3; subst e3 e2; exact h _ _ _ hF2
  · exact absurd e3 (by simp)
theorem kb_condR {tok : Nat → Nat} {P : Nat → PR → Prop} (h : KB P) : KB (PCondR tok P) := by
  have hl : ∀ (j pos : Nat) (cs : List Nat) (p k : Nat), PCondL tok P j pos cs (.inl (p, k)) → 1 ≤ k ∧ k ≤ 5 := by
    intro j
    induction j with
    | zero => intro _ _ _ _ h; exact h.elim
    | succ j ih =>
      intro pos cs p k hP
      rcases hP with ⟨-, e⟩ | ⟨ht, r', hF, ⟨e0, e1, e2⟩ | ⟨p', c', e1, hR⟩⟩
      · exact absurd e (by simp)
      · injection e2 with e2; subst e2 e1; exact h _ _ _ hF
      · exact ih _ _ _ _ hR
  intro pos p k hP
  obtain ⟨r', hF, ⟨e0, e1, e2⟩ | ⟨p', c', j, e1, hR⟩⟩ := hP
  · injection e2 with e2; subst e2 e1; exact h _ _ _ hF
  · exact hl _ _ _ _ _ hR
theorem kb_cond {tok : Nat → Nat} : ∀ (d w : Nat), KB (PCond tok d w) := by
  intro d
  induction d with
  | zero => intro w pos p cs h; exact h.elim
  | succ d ih => intro w; exact kb_condR (kb_test (kb_sum (kb_part (ih (w + 1)))))
def GLn (l : Nat × List Nat) : Prop := l.1 ≤ 99 ∧ (∀ c, c ∈ l.2 → c ≤ 10010) ∧ hL l.2 0 1
theorem gl_line {tok : Nat → Nat} {ln pos p : Nat} {l : Nat × List Nat} (h : PLine tok ln pos (.inr (p, l))) : GLn l := by
  rcases h with ⟨-, e⟩ | ⟨-, -, e⟩ | ⟨-, -, ⟨-, e⟩ | ⟨-, -, e⟩ | ⟨c, ⟨-, e⟩ | ⟨-, r', hR, ⟨e0, e1, e2⟩ | ⟨p', cs', e1, ⟨-, e2⟩ | ⟨-, e2⟩⟩⟩⟩⟩
  · exact absurd e (by simp)
  · exact absurd e (by simp)
  · exact absurd e (by simp)
  · exact absurd e (by simp)
  · exact absurd e (by simp)
  · exact absurd e2 (by simp)
  · injection e2 with e2; injection e2 with e3 e4
    subst e4 e1
    have g := hg_cond 7 0 _ _ _ hR
    exact ⟨c, g.1, g.2 0 (Nat.le_refl 0)⟩
  · exact absurd e2 (by simp)
theorem kb_line {tok : Nat → Nat} {ln pos p k : Nat} (h : PLine tok ln pos (.inl (p, k))) : 1 ≤ k ∧ k ≤ 5 := by
  rcases h with ⟨-, e⟩ | ⟨-, -, e⟩ | ⟨-, -, ⟨-, e⟩ | ⟨-, -, e⟩ | ⟨c, ⟨-, e⟩ | ⟨-, r', hR, ⟨e0, e1, e2⟩ | ⟨p', cs', e1, ⟨-, e2⟩ | ⟨-, e2⟩⟩⟩⟩⟩
  · injection e with e; injection e with e1 e2; omega
  · injection e with e; injection e with e1 e2; omega
  · injection e with e; injection e with e1 e2; omega
  · injection e with e; injection e with e1 e2; omega
  · injection e with e; injection e with e1 e2; omega
  · injection e2 with e2; subst e2 e1; exact kb_cond 7 0 _ _ _ hR
  · exact absurd e2 (by simp)
  · injection e2 with e2; injection e2 with e3 e4; omega
theorem gl_text {tok : Nat → Nat} : ∀ (j pos : Nat) (ls ls' : List (Nat × List Nat)), (∀ l, l ∈ ls → GLn l) → PText tok j pos ls (.inr ls') → ∀ l, l ∈ ls' → GLn l := by
  intro j
  induction j with
  | zero => intro _ _ _ _ h; exact h.elim
  | succ j ih =>
    intro pos ls ls' hg hP
    rcases hP with ⟨-, e⟩ | ⟨-, r', hL, ⟨e0, e1, e2⟩ | ⟨p, l, e1, hR⟩⟩
    · injection e with e; rw [e]; exact hg
    · exact absurd e2 (by simp)
    · subst e1
      refine ih p _ ls' (fun l' hl' => ?_) hR
      rw [List.mem_append, List.mem_singleton] at hl'
      rcases hl' with hl' | hl'
      · exact hg l' hl'
      · rw [hl']; exact gl_line hL
theorem kb_text {tok : Nat → Nat} : ∀ (j pos : Nat) (ls : List (Nat × List Nat)) (p k : Nat), PText tok j pos ls (.inl (p, k)) → 1 ≤ k ∧ k ≤ 5 := by
  intro j
  induction j with
  | zero => intro _ _ _ _ h; exact h.elim
  | succ j ih =>
    intro pos ls p k hP
    rcases hP with ⟨-, e⟩ | ⟨-, r', hL, ⟨e0, e1, e2⟩ | ⟨p', l, e1, hR⟩⟩
    · exact absurd e (by simp)
    · injection e2 with e2; subst e2 e1; exact kb_line hL
    · exact ih _ _ _ _ hR
theorem getD_mem {l : List Nat} {j : Nat} (h : j < l.length) : l.getD j 0 ∈ l := by
  rw [List.getD_eq_getElem?_getD, List.getElem?_eq_getElem h]
  exact List.getElem_mem h
theorem cat_at {ls : List (Nat × List Nat)} {i j : Nat} (hi : i < ls.length) (hj : j < (ls.getD i (0, [])).2.length) : (cat ls).getD ((cat (ls.take i)).length + j) 0 = (ls.getD i (0, [])).2.getD j 0 := by
  have e : cat ls = cat (ls.take i) ++ ((ls.getD i (0, [])).2 ++ cat (ls.drop (i + 1))) := by
    rw [← List.append_assoc, ← cat_s, ← take_s hi, ← cat_app, List.take_append_drop]
  rw [e, List.getD_eq_getElem?_getD, List.getElem?_append_right (Nat.le_add_right _ _), Nat.add_sub_cancel_left, List.getElem?_append_left hj, ← List.getD_eq_getElem?_getD]
theorem hts_hL {f : Nat → Int32} : ∀ (cs : List Nat) (k h h' : Nat), (∀ i, i < cs.length → f (k + i) = nI (cs.getD i 0)) → (∀ c, c ∈ cs → c ≤ 10010) → hL cs h h' → hts f cs.length k h h' := by
  intro cs
  induction cs with
  | nil => intro k h h' _ _ e; exact e
  | cons c cs ih =>
    intro k h h' hf hc e
    have f0 : f k = nI c := hf 0 (by rw [List.length_cons]; omega)
    have hc0 := hc c List.mem_cons_self
    have e : if c ≤ 10005 then h < 16 ∧ hL cs (h + 1) h' else 2 ≤ h ∧ hL cs (h - 1) h' := e
    have hf' : ∀ i, i < cs.length → f (k + 1 + i) = nI (cs.getD i 0) := fun i hi => by
      have := hf (i + 1) (by rw [List.length_cons]; omega)
      rw [show k + 1 + i = k + (i + 1) by omega, this]
      rfl
    show if f k ≤ nI 10005 then h < 16 ∧ hts f cs.length (k + 1) (h + 1) h' else 2 ≤ h ∧ hts f cs.length (k + 1) (h - 1) h'
    rw [f0]
    by_cases q : c ≤ 10005
    · rw [if_pos q] at e
      rw [if_pos (nI_le q (by decide))]
      exact ⟨e.1, ih _ _ _ hf' (fun x hx => hc x (List.mem_cons_of_mem c hx)) e.2⟩
    · rw [if_neg q] at e
      rw [if_neg (nI_ge (by omega) (by omega))]
      exact ⟨e.1, ih _ _ _ hf' (fun x hx => hc x (List.mem_cons_of_mem c hx)) e.2⟩
theorem codeR_of {c : Nat} (h : c ≤ 10010) : codeR (nI c) (nI (opR c)) (nI (vR c)) := by
  by_cases c1 : c ≤ 9999
  · exact Or.inl ⟨c, c1, rfl, by unfold opR; rw [if_pos c1]; rfl, by unfold vR; rw [if_pos c1]⟩
  · by_cases c2 : c < 10006
    · exact Or.inr (Or.inl ⟨c - 10000, by omega, by rw [show 10000 + (c - 10000) = c by omega], by unfold opR; rw [if_neg c1, if_pos c2]; rfl, by unfold vR; rw [if_neg c1, if_pos c2]⟩)
    · have e : c = 10006 ∨ c = 10007 ∨ c = 10008 ∨ c = 10009 ∨ c = 10010 := by omega
      rcases e with e | e | e | e | e <;> subst e
      · exact Or.inr (Or.inr (Or.inl ⟨rfl, by decide⟩))
      · exact Or.inr (Or.inr (Or.inr (Or.inl ⟨rfl, by decide⟩)))
      · exact Or.inr (Or.inr (Or.inr (Or.inr (Or.inl ⟨rfl, by decide⟩))))
      · exact Or.inr (Or.inr (Or.inr (Or.inr (Or.inr (Or.inl ⟨rfl, by decide⟩)))))
      · exact Or.inr (Or.inr (Or.inr (Or.inr (Or.inr (Or.inr ⟨rfl, by decide⟩)))))
theorem tokT_le {g : Nat → Int32} {t p e T : Nat} (he : isEnd g t p e) (h : tokT g p e T) : T ≤ 10017 := by
  rcases h with ⟨-, ⟨w, w1, -, w3⟩ | ⟨-, w3⟩⟩ | ⟨-, hd, ⟨h4, h5⟩ | ⟨-, h5⟩⟩ | ⟨-, -, h5⟩
  · have := wcode_x w w1; omega
  · omega
  · have b1 := nv_lt (g := g) (p := p) (e - p) (fun i hi => (he.2.2.2.1 hd).1 (p + i) (by omega) (by omega))
    have b2 : 10 ^ (e - p) ≤ 10 ^ 4 := Nat.pow_le_pow_right (by decide) h4
    rw [← h5] at b1
    omega
  · omega
  · rw [h5]
    unfold sgT
    repeat' split
    all_goals omega
theorem TKs_b {g : Nat → Int32} {t : Nat} : ∀ (ts : List (Nat × Nat)) (k : Nat), TKs g t k ts → ∀ i, i < ts.length → (ts.getD i (0, 0)).1 ≤ 10017 ∧ (ts.getD i (0, 0)).2 < t := by
  intro ts
  induction ts with
  | nil => intro k _ i hi; exact absurd hi (Nat.not_lt_zero i)
  | cons a ts ih =>
    intro k h i hi
    obtain ⟨h1, h2, h3, h4, e, h5, h6, h7⟩ := h
    cases i with
    | zero => exact ⟨tokT_le h5 h6, h2⟩
    | succ i => exact ih e h7 i (by rw [List.length_cons] at hi; omega)
theorem Rel_text {i n : Nat} {C R C' R' : Sg} (h : Rel i n C R) (e : ∀ k, k ∈ [0, 1, 2, 3, 5, 6, 23] → gI C' k = gI C k) (f : ∀ a, a ∈ [0, 1, 2, 3, 4, 19, 20, 21, 22, 23, 24, 26, 30, 31, 32, 33, 34, 35, 36, 37, 38, 39, 40, 41, 50, 51, 52, 53, 54, 55, 56, 57, 58, 59, 60, 61] → gA C' a = gA C a) (c14 : gI C' 14 = 0) (e' : ∀ k, k ∈ [24, 25, 30, 42, 45, 55] → gI R' k = gI R k) (f' : ∀ a, a ∈ [26, 27, 28, 29, 30, 31, 32, 33, 34, 35, 36, 37, 38, 39, 40, 41, 46, 47, 48, 49, 50, 51, 54] → gA R' a = gA R a) (r2 : gI R' 2 = 0) (g' : gJ R' 9 = gJ R 9) (hX : RelX C' R') : Rel i n C' R' := by
  obtain ⟨⟨w, x, h1, h2⟩, h3, h4, ⟨m, h5⟩, h6, h7, h8, h9⟩ := h
  refine ⟨⟨w, x, RelB_R (RelB_C h1 (e 0 (by decide)) (e 1 (by decide)) (e 23 (by decide)) (f 0 (by decide)) (f 1 (by decide))) (e' 24 (by decide)) (e' 25 (by decide)) (e' 30 (by decide)) (f' 26 (by decide)) (f' 27 (by decide)) (f' 28 (by decide)), RelL_R (RelL_C h2 (f 50 (by decide)) (f 51 (by decide)) (f 52 (by decide)) (f 53 (by decide)) (f 54 (by decide)) (f 55 (by decide)) (f 56 (by decide)) (f 57 (by decide)) (f 58 (by decide)) (f 59 (by decide)) (f 60 (by decide)) (f 61 (by decide))) (f' 31 (by decide)) (f' 32 (by decide)) (f' 33 (by decide)) (f' 34 (by decide)) (f' 35 (by decide)) (f' 36 (by decide)) (f' 37 (by decide)) (f' 38 (by decide)) (f' 39 (by decide)) (f' 40 (by decide)) (f' 41 (by decide))⟩, RelK_R (RelK_C h3 (f 2 (by decide))) (f' 38 (by decide)) (f' 39 (by decide)), RelP_R (RelP_C h4 (e 2 (by decide)) (e 3 (by decide)) (f 3 (by decide)) (f 4 (by decide))) (e' 42 (by decide)) (f' 28 (by decide)) (f' 29 (by decide)), ⟨m, RelS_R (RelS_C h5 (e 5 (by decide)) (fun a q => f a (by simp; omega))) (e' 45 (by decide)) (f' 46 (by decide)) (f' 47 (by decide)) (f' 48 (by decide)) (f' 49 (by decide)) (f' 50 (by decide)) (f' 51 (by decide))⟩, RelD_R (RelD_C h6 (e 6 (by decide)) (f 26 (by decide))) (e' 55 (by decide)) (f' 54 (by decide)), ⟨0, by omega, c14, r2, fun i hi => absurd hi (Nat.not_lt_zero i)⟩, hX, g'.trans h9.1, fun j hj => ?_⟩
  rw [f' 40 (by decide), f' 41 (by decide)]
  exact h9.2 j hj
/-- the old text stays -/
theorem RelX_old {nx : Nat} {C R C' R' : Sg} (h : ∃ (m hd : Nat) (st : Nat → Nat), hd ≤ 1 ∧ nx = 1 - hd ∧ RelX1 m hd st C R) (i15 : gI C' 15 = gI C 15) (a9 : gA C' 9 = gA C 9) (a10 : gA C' 10 = gA C 10) (a11 : gA C' 11 = gA C 11) (r15 : gI R' 15 = gI R 15) (g10 : fr10 nx R R') (g11 : fr11 nx R R') (g13 : fr13 nx R R') : RelX C' R' := by
  obtain ⟨m, hd, st, d1, d2, h⟩ := h
  obtain ⟨x1, x2, x3, x4, x5, x6, x7, x8⟩ := id h
  refine ⟨m, hd, st, x1, x2, i15.trans x3, r15.trans x4, (g10 hd (by omega)).trans x5, x6, x7, fun i hi => ?_⟩
  obtain ⟨y1, y2, y3, y4, y5, y6, y7, y8⟩ := x8 i hi
  have m1 := RelX1_le h (show i ≤ m by omega)
  have m2 := RelX1_le h (show i + 1 ≤ m by omega)
  have q11 := g11 (16 * hd + i) (by omega)
  rw [a9, a10, a11, q11.1, q11.2]
  refine ⟨y1, y2, y3, y4, y5, fun k k1 k2 => ?_, ?_, y8⟩
  · have q13 := g13 (660 * hd + k + i) (by omega)
    rw [q13.1, q13.2]
    exact y6 k k1 k2
  · rw [(g13 (660 * hd + st (i + 1) + i) (by omega)).1]
    exact y7
/-- the new text is in force -/
theorem RelX_new {N N' nx p p' : Nat} {M9 MC R6 MR C' R' : Sg} {ls : List (Nat × List Nat)} (hN : N ≤ 601) (hnx : nx ≤ 1) (hg : ∀ l, l ∈ ls → GLn l) (hC : LnS N M9 p ls MC) (hR : RLn N' nx R6 p' ls MR) (i15 : gI C' 15 = gI MC 17) (a9 : gA C' 9 = gA MC 13) (a10 : gA C' 10 = gA MC 14) (a11 : gA C' 11 = gA MC 15) (r15 : gI R' 15 = nI nx) (r10 : gA R' 10 = gA MR 10) (r11 : gA R' 11 = gA MR 11) (r12 : gA R' 12 = gA MR 12) (r13 : gA R' 13 = gA MR 13) (r14 : gA R' 14 = gA MR 14) : RelX C' R' := by
  obtain ⟨c1, c2, c3, c4, c5, c6, c7, c8, c9⟩ := hC
  obtain ⟨-, -, -, -, h10, -, -, -, hl, -, -, -⟩ := hR
  refine ⟨ls.length, nx, fun i => (cat (ls.take i)).length, c8, hnx, i15.trans c7, r15, by rw [r10]; exact h10, rfl, ?_, fun i hi => ?_⟩
  · show (cat (ls.take ls.length)).length ≤ 600
    rw [List.take_of_length_le (Nat.le_refl _)]
    omega
  · have t1 := cat_take hi
    have t2 := cat_le ls (i + 1)
    obtain ⟨g1, g2, g3, g4⟩ := hl i hi
    have hmem : ls.getD i (0, []) ∈ ls := by
      rw [List.getD_eq_getElem?_getD, List.getElem?_eq_getElem hi]
      exact List.getElem_mem hi
    obtain ⟨k1, k2, k3⟩ := hg _ hmem
    have code : ∀ j, j < (ls.getD i (0, [])).2.length → gA MC 15 ((cat (ls.take i)).length + j) = nI ((ls.getD i (0, [])).2.getD j 0) := fun j hj => by
      rw [c4 _ (by omega), cat_at hi hj]
    refine ⟨by show (cat (ls.take i)).length ≤ (cat (ls.take (i + 1))).length; omega, by rw [a9, r11, g1]; exact (c9 i hi).1, ⟨_, k1, by rw [r11]; exact g1⟩, by rw [a10]; exact (c9 i hi).2, by rw [r12]; exact g2, fun k q1 q2 => ?_, by rw [r13]; exact g4, ?_⟩
    · have q1 : (cat (ls.take i)).length ≤ k := q1
      have q2 : k < (cat (ls.take (i + 1))).length := q2
      obtain ⟨j, ej⟩ : ∃ j, k = (cat (ls.take i)).length + j := ⟨k - (cat (ls.take i)).length, by omega⟩
      have hj : j < (ls.getD i (0, [])).2.length := by omega
      have g := g3 j hj
      rw [a11, r13, r14, ej, code j hj, show 660 * nx + ((cat (ls.take i)).length + j) + i = 660 * nx + (cat (ls.take i)).length + i + j by omega, g.1, g.2]
      exact codeR_of (k2 _ (getD_mem hj))
    · show hts (gA C' 11) ((cat (ls.take (i + 1))).length - (cat (ls.take i)).length) (cat (ls.take i)).length 0 1
      rw [a11, t1, Nat.add_sub_cancel_left]
      exact hts_hL _ _ _ _ code k2 k3
