/-! texts: tokens, as both sides cut them -/
def ltr (v : Int32) : Prop := ¬ v < 97 ∧ ¬ (122 : Int32) < v
def dgt (v : Int32) : Prop := ¬ v < 48 ∧ ¬ (57 : Int32) < v
def blk (v : Int32) : Prop := v = 10 ∨ v = 32
theorem ltr_n {v : Int32} (h : ltr v) : ∃ r, 1 ≤ r ∧ r ≤ 26 ∧ v = nI (96 + r) := by
  obtain ⟨k, k1, k2, k3⟩ := z_rng (a := v) (lo := 97) (hi := 122) (l := 97) (h := 122) rfl rfl (by decide) (by decide) (Int32.not_lt.mp h.1) (Int32.not_lt.mp h.2)
  exact ⟨k - 96, by omega, by omega, by rw [k3, show 96 + (k - 96) = k by omega]⟩
theorem dgt_n {v : Int32} (h : dgt v) : ∃ d, d ≤ 9 ∧ v = nI (48 + d) := by
  obtain ⟨k, k1, k2, k3⟩ := z_rng (a := v) (lo := 48) (hi := 57) (l := 48) (h := 57) rfl rfl (by decide) (by decide) (Int32.not_lt.mp h.1) (Int32.not_lt.mp h.2)
  exact ⟨k - 48, by omega, by rw [k3, show 48 + (k - 48) = k by omega]⟩
theorem ltr_dgt {v : Int32} (h : ltr v) : ¬ dgt v := fun g => by
  obtain ⟨r, r1, r2, r3⟩ := ltr_n h
  obtain ⟨d, d1, d2⟩ := dgt_n g
  rw [r3, nI_eq (by omega) (by omega)] at d2
  omega
theorem z_ltrC {n : Nat} {M : Sg} {v : Int32} {Q : Sg → Int32 → Prop} (h1 : ltr v → Q M 1) (h0 : ¬ ltr v → Q M 0) : wX6_isLetter n M v Q := ⟨fun c => h0 (fun q => q.1 c), fun c => ⟨fun c2 => h0 (fun q => q.2 c2), fun c2 => h1 ⟨c, c2⟩⟩⟩
theorem z_dgtC {n : Nat} {M : Sg} {v : Int32} {Q : Sg → Int32 → Prop} (h1 : dgt v → Q M 1) (h0 : ¬ dgt v → Q M 0) : wX6_isDigit n M v Q := ⟨fun c => h0 (fun q => q.1 c), fun c => ⟨fun c2 => h0 (fun q => q.2 c2), fun c2 => h1 ⟨c, c2⟩⟩⟩
theorem z_ltrM {M : Sg} {v : Int32} {Q : Sg → Int32 → Prop} (h1 : ltr v → Q M 1) (h0 : ¬ ltr v → Q M 0) : wX9_isLetter M v Q := ⟨fun c => h0 (fun q => q.1 c), fun c => ⟨fun c2 => h0 (fun q => q.2 c2), fun c2 => h1 ⟨c, c2⟩⟩⟩
theorem z_dgtM {M : Sg} {v : Int32} {Q : Sg → Int32 → Prop} (h1 : dgt v → Q M 1) (h0 : ¬ dgt v → Q M 0) : wX9_isDigit M v Q := ⟨fun c => h0 (fun q => q.1 c), fun c => ⟨fun c2 => h0 (fun q => q.2 c2), fun c2 => h1 ⟨c, c2⟩⟩⟩
theorem z_blkC {n : Nat} {M : Sg} {v : Int32} {Q : Sg → Int32 → Prop} (h1 : blk v → Q M 1) (h0 : ¬ blk v → Q M 0) : wX6_isBlank n M v Q := ⟨fun c => h1 (Or.inl c), fun c => ⟨fun c2 => h0 (fun q => q.elim c c2), fun c2 => h1 (Or.inr c2)⟩⟩
def isEnd (g : Nat → Int32) (t p e : Nat) : Prop := p < e ∧ e ≤ t ∧ (ltr (g p) → (∀ j, p ≤ j → j < e → ltr (g j)) ∧ (e = t ∨ ¬ ltr (g e))) ∧ (dgt (g p) → (∀ j, p ≤ j → j < e → dgt (g j)) ∧ (e = t ∨ ¬ dgt (g e))) ∧ (¬ ltr (g p) → ¬ dgt (g p) → e = p + 1)
theorem isEnd_le {g : Nat → Int32} {t p e e' : Nat} (h : isEnd g t p e) (h' : isEnd g t p e') : e' ≤ e := by
  rcases Nat.lt_or_ge e e' with z | z
  · exfalso
    obtain ⟨a1, a2, a3, a4, a5⟩ := h
    obtain ⟨b1, b2, b3, b4, b5⟩ := h'
    by_cases c : ltr (g p)
    · rcases (a3 c).2 with q | q
      · omega
      · exact q ((b3 c).1 e (by omega) z)
    · by_cases c2 : dgt (g p)
      · rcases (a4 c2).2 with q | q
        · omega
        · exact q ((b4 c2).1 e (by omega) z)
      · have := a5 c c2
        have := b5 c c2
        omega
  · exact z
theorem isEnd_u {g : Nat → Int32} {t p e e' : Nat} (h : isEnd g t p e) (h' : isEnd g t p e') : e = e' := Nat.le_antisymm (isEnd_le h' h) (isEnd_le h h')
/-- the tape as the class holds it -/
def tpC (g : Nat → Int32) (t : Nat) (M : Sg) : Prop := t ≤ 600 ∧ gI M 25 = 1 ∧ gI M 22 = nI t ∧ ∀ i, i < t → gA M 8 i = g i
theorem z_endOf {n t p : Nat} {g : Nat → Int32} {M : Sg} {Q : Sg → Int32 → Prop} (hM : tpC g t M) (hp : p < t) (hq : ∀ e, isEnd g t p e → Q M (nI e)) : wX6_endOf n M (nI p) Q := by
  obtain ⟨t6, h25, h22, h8⟩ := hM
  have hin : ∀ k, k < t → vp_in (nI k) 600 := fun k hk => vp_in_nI (by omega) (by decide)
  have loopL : ltr (g p) → ∀ (k e : Nat), e + k = t → p < e → (∀ j, p ≤ j → j < e → ltr (g j)) → vX6_endOf_25 n Q (k + 1) M 1 0 (nI e) := by
    intro hl k
    induction k with
    | zero =>
      intro e he hpe h
      exact ⟨fun _ => hq e ⟨hpe, by omega, fun _ => ⟨h, Or.inl (by omega)⟩, fun q => absurd q (ltr_dgt hl), fun q => absurd hl q⟩, fun c => absurd (by rw [h22]; exact nI_le (by omega) (by omega)) c⟩
    | succ k ih =>
      intro e he hpe h
      refine ⟨fun c => absurd c (by rw [h22]; exact nI_ge (by omega) (by omega)), fun _ => ⟨fun c => absurd c (by decide), fun _ => ⟨h25, hin e (by omega), ?_⟩⟩⟩
      rw [nI_clamp (by omega), h8 e (by omega)]
      refine z_ltrC (fun q => ⟨fun _ y ey => ?_, fun q => absurd q (by decide)⟩) (fun q => ⟨fun c => absurd rfl c, fun _ => ⟨fun _ => ?_, fun c => absurd rfl c⟩⟩)
      · rw [ey, nI_1]
        refine ih (e + 1) (by omega) (by omega) (fun j h1 h2 => ?_)
        by_cases z : j = e
        · rw [z]; exact q
        · exact h j h1 (by omega)
      · exact hq e ⟨hpe, by omega, fun _ => ⟨h, Or.inr q⟩, fun q => absurd q (ltr_dgt hl), fun q => absurd hl q⟩
  have loopD : ¬ ltr (g p) → dgt (g p) → ∀ (k e : Nat), e + k = t → p < e → (∀ j, p ≤ j → j < e → dgt (g j)) → vX6_endOf_25 n Q (k + 1) M 0 1 (nI e) := by
    intro hl hd k
    induction k with
    | zero =>
      intro e he hpe h
      exact ⟨fun _ => hq e ⟨hpe, by omega, fun q => absurd q hl, fun _ => ⟨h, Or.inl (by omega)⟩, fun _ q => absurd hd q⟩, fun c => absurd (by rw [h22]; exact nI_le (by omega) (by omega)) c⟩
    | succ k ih =>
      intro e he hpe h
      refine ⟨fun c => absurd c (by rw [h22]; exact nI_ge (by omega) (by omega)), fun _ => ⟨fun _ => ⟨fun c => absurd c (by decide), fun _ => ⟨h25, hin e (by omega), ?_⟩⟩, fun c => absurd rfl c⟩⟩
      rw [nI_clamp (by omega), h8 e (by omega)]
      refine z_dgtC (fun q => ⟨fun q => absurd q (by decide), fun _ y ey => ?_⟩) (fun q => ⟨fun _ => ?_, fun c => absurd rfl c⟩)
      · rw [ey, nI_1]
        refine ih (e + 1) (by omega) (by omega) (fun j h1 h2 => ?_)
        by_cases z : j = e
        · rw [z]; exact q
        · exact h j h1 (by omega)
      · exact hq e ⟨hpe, by omega, fun q => absurd q hl, fun _ => ⟨h, Or.inr q⟩, fun _ q => absurd hd q⟩
  refine ⟨h25, hin p hp, ?_⟩
  rw [nI_clamp (by omega), h8 p hp]
  refine z_ltrC (fun q => ⟨h25, hin p hp, ?_⟩) (fun q => ⟨h25, hin p hp, ?_⟩)
  · rw [h8 p hp]
    refine z_dgtC (fun q2 => absurd q2 (ltr_dgt q)) (fun q2 y ey => ⟨t - (p + 1) + 1, ?_⟩)
    rw [ey, nI_1]
    exact loopL q (t - (p + 1)) (p + 1) (by omega) (by omega) (fun j h1 h2 => by rw [show j = p by omega]; exact q)
  · rw [h8 p hp]
    refine z_dgtC (fun q2 y ey => ⟨t - (p + 1) + 1, ?_⟩) (fun q2 y ey => ⟨1, ?_⟩)
    · rw [ey, nI_1]
      exact loopD q q2 (t - (p + 1)) (p + 1) (by omega) (by omega) (fun j h1 h2 => by rw [show j = p by omega]; exact q2)
    · rw [ey, nI_1]
      have : Q M (nI (p + 1)) := hq (p + 1) ⟨by omega, by omega, fun c => absurd c q, fun c => absurd c q2, fun _ _ => rfl⟩
      exact ⟨fun _ => this, fun _ => ⟨fun _ => ⟨fun _ => this, fun c => absurd rfl c⟩, fun c => absurd rfl c⟩⟩
/-! words, numbers, signs -/
def spl (g : Nat → Int32) (p e w : Nat) : Prop := e - p = sLen.getD w 0 ∧ ∀ i, i < sLen.getD w 0 → g (p + i) = sC w i
def wcode (w : Nat) : Nat := if w = 0 then 10011 else if w = 1 then 10012 else if w = 2 then 10010 else 9997 + w
theorem sLen_le : ∀ w, w < 9 → sLen.getD w 0 ≤ 5 := by decide
theorem z_spelt {n t p e w : Nat} {g : Nat → Int32} {M : Sg} {Q : Sg → Int32 → Prop} (hM : tpC g t M) (hpe : p < e) (he : e ≤ t) (hw : w < 9) (h1 : spl g p e w → Q M 1) (h0 : ¬ spl g p e w → Q M 0) : wX6_isSpelt n M (nI p) (nI e) w Q := by
  obtain ⟨t6, h25, h22, h8⟩ := hM
  have h5 := sLen_le w hw
  have loop : e - p = sLen.getD w 0 → ∀ (k i : Nat), i + k = sLen.getD w 0 → (∀ i', i' < i → g (p + i') = sC w i') → vX6_isSpelt_15 n Q (k + 1) M (nI p) w (nI i) := by
    intro hl k
    induction k with
    | zero =>
      intro i hi h
      exact ⟨by omega, fun _ => h1 ⟨hl, fun i' hi' => h i' (by omega)⟩, fun c => absurd (nI_le (by omega) (by omega)) c⟩
    | succ k ih =>
      intro i hi h
      refine ⟨by omega, fun c => absurd c (nI_ge (by omega) (by omega)), fun _ => ⟨h25, ?_⟩⟩
      rw [nI_add, nI_clamp (by omega), nI_clamp (by omega), h8 (p + i) (by omega)]
      refine ⟨vp_in_nI (by omega) (by decide), ⟨by omega, vp_in_nI (by omega) (by omega)⟩, fun c y ey => ?_, fun c => h0 (fun q => c (q.2 i (by omega)))⟩
      rw [ey, nI_1]
      refine ih (i + 1) (by omega) (fun i' hi' => ?_)
      by_cases z : i' = i
      · rw [z]; exact c
      · exact h i' (by omega)
  refine ⟨by omega, ?_⟩
  rw [pk_sub (by omega)]
  refine ⟨fun c => ⟨_, loop ?_ (sLen.getD w 0) 0 (by omega) (fun i' q => absurd q (Nat.not_lt_zero i'))⟩, fun c => h0 (fun q => c (by rw [q.1]))⟩
  rw [nI_eq (by omega) (by omega)] at c
  exact c
def wT (g : Nat → Int32) (p e T : Nat) : Prop := (∃ w, w < 9 ∧ spl g p e w ∧ T = wcode w) ∨ ((∀ w, w < 9 → ¬ spl g p e w) ∧ T = 10017)
theorem z_wordOf {n t p e : Nat} {g : Nat → Int32} {M : Sg} {Q : Sg → Int32 → Prop} (hM : tpC g t M) (hpe : p < e) (he : e ≤ t) (hq : ∀ T, wT g p e T → Q M (nI T)) : wX6_wordOf n M (nI p) (nI e) Q := by
  have yes : ∀ w, w < 9 → spl g p e w → Q M (nI (wcode w)) := fun w hw h => hq _ (Or.inl ⟨w, hw, h, rfl⟩)
  unfold wX6_wordOf
  refine z_spelt hM hpe he (by decide) (fun q => ⟨fun c => absurd c (by decide), fun _ => yes 0 (by decide) q⟩) (fun q0 => ⟨fun _ => ?_, fun c => absurd rfl c⟩)
  refine z_spelt hM hpe he (by decide) (fun q => ⟨fun c => absurd c (by decide), fun _ => yes 1 (by decide) q⟩) (fun q1 => ⟨fun _ => ?_, fun c => absurd rfl c⟩)
  refine z_spelt hM hpe he (by decide) (fun q => ⟨fun c => absurd c (by decide), fun _ => yes 2 (by decide) q⟩) (fun q2 => ⟨fun _ => ?_, fun c => absurd rfl c⟩)
  refine z_spelt hM hpe he (by decide) (fun q => ⟨fun c => absurd c (by decide), fun _ => yes 3 (by decide) q⟩) (fun q3 => ⟨fun _ => ?_, fun c => absurd rfl c⟩)
  refine z_spelt hM hpe he (by decide) (fun q => ⟨fun c => absurd c (by decide), fun _ => yes 4 (by decide) q⟩) (fun q4 => ⟨fun _ => ?_, fun c => absurd rfl c⟩)
  refine z_spelt hM hpe he (by decide) (fun q => ⟨fun c => absurd c (by decide), fun _ => yes 5 (by decide) q⟩) (fun q5 => ⟨fun _ => ?_, fun c => absurd rfl c⟩)
  refine z_spelt hM hpe he (by decide) (fun q => ⟨fun c => absurd c (by decide), fun _ => yes 6 (by decide) q⟩) (fun q6 => ⟨fun _ => ?_, fun c => absurd rfl c⟩)
  refine z_spelt hM hpe he (by decide) (fun q => ⟨fun c => absurd c (by decide), fun _ => yes 7 (by decide) q⟩) (fun q7 => ⟨fun _ => ?_, fun c => absurd rfl c⟩)
  refine z_spelt hM hpe he (by decide) (fun q => ⟨fun c => absurd c (by decide), fun _ => yes 8 (by decide) q⟩) (fun q8 => ⟨fun _ => hq 10017 (Or.inr ⟨fun w hw => ?_, rfl⟩), fun c => absurd rfl c⟩)
  rcases w with _ | _ | _ | _ | _ | _ | _ | _ | _ | w
  · exact q0
  · exact q1
  · exact q2
  · exact q3
  · exact q4
  · exact q5
  · exact q6
  · exact q7
  · exact q8
  · omega
def nv (g : Nat → Int32) (p : Nat) : Nat → Nat
  | 0 => 0
  | k + 1 => 10 * nv g p k + ((g (p + k)).toNatClampNeg - 48)
theorem nv_lt {g : Nat → Int32} {p : Nat} : ∀ (k : Nat), (∀ i, i < k → dgt (g (p + i))) → nv g p k < 10 ^ k := by
  intro k
  induction k with
  | zero => intro _; exact Nat.one_pos
  | succ k ih =>
    intro h
    obtain ⟨d, d1, d2⟩ := dgt_n (h k (Nat.lt_succ_self k))
    have := ih (fun i hi => h i (by omega))
    show 10 * nv g p k + ((g (p + k)).toNatClampNeg - 48) < 10 ^ (k + 1)
    rw [d2, nI_clamp (by omega), Nat.pow_succ]
    omega
theorem nv_s {g : Nat → Int32} {p k d : Nat} (hd : d ≤ 9) (h : g (p + k) = nI (48 + d)) : nv g p (k + 1) = 10 * nv g p k + d := by
  show 10 * nv g p k + ((g (p + k)).toNatClampNeg - 48) = _
  rw [h, nI_clamp (by omega)]
  omega
theorem z_numberOf {n t p e : Nat} {g : Nat → Int32} {M : Sg} {Q : Sg → Int32 → Prop} (hM : tpC g t M) (hpe : p < e) (he : e ≤ t) (hd : ∀ j, p ≤ j → j < e → dgt (g j)) (h1 : e - p ≤ 4 → Q M (nI (nv g p (e - p)))) (h0 : 4 < e - p → Q M (nI 10017)) : wX6_numberOf n M (nI p) (nI e) Q := by
  obtain ⟨t6, h25, h22, h8⟩ := hM
  have loop : e - p ≤ 4 → ∀ (k q : Nat), q + k = e → p ≤ q → vX6_numberOf_16 n Q (k + 1) M (nI e) (nI (nv g p (q - p))) (nI q) := by
    intro h4 k
    induction k with
    | zero =>
      intro q hq hp
      have eq : q = e := by omega
      subst eq
      exact ⟨fun _ => h1 h4, fun c => absurd (Int32.le_refl _) c⟩
    | succ k ih =>
      intro q hq hp
      refine ⟨fun c => absurd c (nI_ge (by omega) (by omega)), fun _ => ⟨h25, vp_in_nI (by omega) (by decide), fun y ey z ez => ?_⟩⟩
      obtain ⟨d, d1, d2⟩ := dgt_n (hd q hp (by omega))
      have d3 : g (p + (q - p)) = nI (48 + d) := by rw [show p + (q - p) = q by omega]; exact d2
      rw [nI_clamp (by omega), h8 q (by omega), d2, show (10 : Int32) = nI 10 from rfl, show (48 : Int32) = nI 48 from rfl, pk_mul, nI_add, pk_sub (by omega), show 10 * nv g p (q - p) + (48 + d) - 48 = 10 * nv g p (q - p) + d by omega, ← nv_s d1 d3, show q - p + 1 = q + 1 - p by omega] at ey
      rw [ez, nI_1, ey]
      exact ih (q + 1) (by omega) (by omega)
  unfold wX6_numberOf
  rw [pk_sub (by omega), show (4 : Int32) = nI 4 from rfl, nI_leI (by omega) (by omega)]
  refine ⟨fun c => ⟨e - p + 1, ?_⟩, fun c => h0 (by omega)⟩
  have := loop c (e - p) p (by omega) (Nat.le_refl p)
  rw [Nat.sub_self] at this
  exact this
def sgT (v : Int32) : Nat := if v = 40 then 10013 else if v = 41 then 10014 else if v = 43 then 10006 else if v = 45 then 10007 else if v = 59 then 10015 else if v = 60 then 10008 else if v = 61 then 10009 else 10017
theorem z_signOf {n : Nat} {M : Sg} {v : Int32} {Q : Sg → Int32 → Prop} (h : Q M (nI (sgT v))) : wX6_signOf n M v Q := by
  have go : ∀ (c : Int32) (T : Nat), sgT c = T → v = c → Q M (nI T) := fun c T e1 e2 => by rw [e2, e1] at h; exact h
  refine ⟨go 40 10013 (by decide), go 41 10014 (by decide), go 42 10017 (by decide), go 43 10006 (by decide), go 44 10017 (by decide), go 45 10007 (by decide), go 46 10017 (by decide), go 47 10017 (by decide), go 48 10017 (by decide), go 49 10017 (by decide), go 50 10017 (by decide), go 51 10017 (by decide), go 52 10017 (by decide), go 53 10017 (by decide), go 54 10017 (by decide), go 55 10017 (by decide), go 56 10017 (by decide), go 57 10017 (by decide), go 58 10017 (by decide), go 59 10015 (by decide), go 60 10008 (by decide), go 61 10009 (by decide), fun q => ?_⟩
  obtain ⟨q0, q1, q2, q3, q4, q5, q6, q7, q8, q9, q10, q11, q12, q13, q14, q15, q16, q17, q18, q19, q20, q21⟩ := q
  have e : sgT v = 10017 := by
    unfold sgT
    rw [if_neg q0, if_neg q1, if_neg q3, if_neg q5, if_neg q19, if_neg q20, if_neg q21]
  rw [e] at h
  exact h
def tokT (g : Nat → Int32) (p e T : Nat) : Prop := (ltr (g p) ∧ wT g p e T) ∨ (¬ ltr (g p) ∧ dgt (g p) ∧ ((e - p ≤ 4 ∧ T = nv g p (e - p)) ∨ (4 < e - p ∧ T = 10017))) ∨ (¬ ltr (g p) ∧ ¬ dgt (g p) ∧ T = sgT (g p))
theorem z_tokenOf {n t p e : Nat} {g : Nat → Int32} {M : Sg} {Q : Sg → Int32 → Prop} (hM : tpC g t M) (he : isEnd g t p e) (hq : ∀ T, tokT g p e T → Q M (nI T)) : wX6_tokenOf n M (nI p) (nI e) Q := by
  obtain ⟨t6, h25, h22, h8⟩ := id hM
  obtain ⟨e1, e2, e3, e4, e5⟩ := he
  have hin : vp_in (nI p) 600 := vp_in_nI (by omega) (by decide)
  refine ⟨h25, hin, ?_⟩
  rw [nI_clamp (by omega), h8 p (by omega)]
  refine z_ltrC (fun q => ⟨fun c => absurd c (by decide), fun _ => z_wordOf hM e1 e2 (fun T hT => hq T (Or.inl ⟨q, hT⟩))⟩) (fun q => ⟨fun _ => ⟨h25, hin, ?_⟩, fun c => absurd rfl c⟩)
  rw [h8 p (by omega)]
  refine z_dgtC (fun q2 => ⟨fun c => absurd c (by decide), fun _ => z_numberOf hM e1 e2 (e4 q2).1 (fun c => hq _ (Or.inr (Or.inl ⟨q, q2, Or.inl ⟨c, rfl⟩⟩))) (fun c => hq _ (Or.inr (Or.inl ⟨q, q2, Or.inr ⟨c, rfl⟩⟩)))⟩) (fun q2 => ⟨fun _ => ⟨h25, hin, ?_⟩, fun c => absurd rfl c⟩)
  rw [h8 p (by omega)]
  exact z_signOf (hq _ (Or.inr (Or.inr ⟨q, q2, rfl⟩)))
def TKs (g : Nat → Int32) (t : Nat) : Nat → List (Nat × Nat) → Prop
  | k, [] => ∀ j, k ≤ j → j < t → blk (g j)
  | k, (T, p) :: ts => k ≤ p ∧ p < t ∧ (∀ j, k ≤ j → j < p → blk (g j)) ∧ ¬ blk (g p) ∧ ∃ e, isEnd g t p e ∧ tokT g p e T ∧ TKs g t e ts
theorem TKs_up {g : Nat → Int32} {t k : Nat} {ts : List (Nat × Nat)} (hb : blk (g k)) (h : TKs g t (k + 1) ts) : TKs g t k ts := by
  cases ts with
  | nil =>
    intro j h1 h2
    by_cases z : j = k
    · rw [z]; exact hb
    · exact h j (by omega) h2
  | cons a ts =>
    obtain ⟨h1, h2, h3, h4⟩ := h
    refine ⟨by omega, h2, fun j j1 j2 => ?_, h4⟩
    by_cases z : j = k
    · rw [z]; exact hb
    · exact h3 j (by omega) j2
theorem TKs_dn {g : Nat → Int32} {t k : Nat} {ts : List (Nat × Nat)} (hb : blk (g k)) (h : TKs g t k ts) : TKs g t (k + 1) ts := by
  cases ts with
  | nil => exact fun j h1 h2 => h j (by omega) h2
  | cons a ts =>
    obtain ⟨h1, h2, h3, h4, h5⟩ := h
    have : a.2 ≠ k := fun z => h4 (by rw [z]; exact hb)
    exact ⟨by omega, h2, fun j j1 j2 => h3 j (by omega) j2, h4, h5⟩
theorem TKs_len {g : Nat → Int32} {t : Nat} : ∀ (ts : List (Nat × Nat)) (k : Nat), TKs g t k ts → k ≤ t → k + ts.length ≤ t := by
  intro ts
  induction ts with
  | nil => intro k _ h; exact h
  | cons a ts ih =>
    intro k h hk
    obtain ⟨h1, h2, h3, h4, e, h5, h6, h7⟩ := h
    have := ih e h7 h5.2.1
    have := h5.1
    rw [List.length_cons]
    omega
theorem z_getDp {α : Type} {l : List α} {i : Nat} {m d : α} : (l ++ [m]).getD i d = if i < l.length then l.getD i d else if i = l.length then m else d := by
  rw [List.getD_eq_getElem?_getD, List.getD_eq_getElem?_getD, List.getElem?_append]
  by_cases h : i < l.length
  · rw [if_pos h, if_pos h]
  · rw [if_neg h, if_neg h]
    by_cases e : i = l.length
    · subst e; rw [if_pos rfl, Nat.sub_self]; rfl
    · rw [if_neg e, List.getElem?_eq_none (by simp; omega)]; rfl
def tkC (M : Sg) (L : List (Nat × Nat)) : Prop := gI M 19 = nI L.length ∧ ∀ i, i < L.length → gA M 17 i = nI (L.getD i (0, 0)).1 ∧ gA M 18 i = nI (L.getD i (0, 0)).2
theorem z_addToken {n T p : Nat} {L : List (Nat × Nat)} {M : Sg} {Q : Sg → Prop} (h : tkC M L) (hl : L.length < 601) (hq : ∀ M', ag [19] [17, 18] M M' → tkC M' (L ++ [(T, p)]) → Q M') : wX6_addToken n M (nI T) (nI p) Q := by
  obtain ⟨h1, h2⟩ := h
  have hin : vp_in (nI L.length) 601 := vp_in_nI hl (by decide)
  refine ⟨fun c => absurd c (by rw [h1, show (601 : Int32) = nI 601 from rfl]; exact nI_ge hl (by decide)), fun _ => ?_⟩
  rw [h1]
  refine ⟨hin, fun M1 e1 => ?_⟩
  have i1 : gI M1 19 = nI L.length := by rw [e1]; exact h1
  rw [i1]
  refine ⟨hin, fun M2 e2 M3 e3 => hq M3 ?_ ⟨?_, fun i hi => ?_⟩⟩
  · rw [e3, e2, e1]
    exact ag_sI (ag_sA (ag_sA ag_rf (by decide)) (by decide)) (by decide)
  · have i2 : gI M2 19 = nI L.length := by rw [e2]; exact i1
    rw [e3, i2, List.length_append, List.length_singleton]
    exact nI_1 _
  · rw [nI_clamp (by omega)] at e1 e2
    rw [List.length_append, List.length_singleton] at hi
    rw [z_getDp, e3, e2, e1]
    show upd (gA M 17) L.length (nI T) i = _ ∧ upd (gA M 18) L.length (nI p) i = _
    by_cases c : i < L.length
    · rw [if_pos c, pk_un (by omega), pk_un (by omega)]; exact h2 i c
    · have e : i = L.length := by omega
      rw [if_neg c, if_pos e, e, pk_us, pk_us]
      exact ⟨rfl, rfl⟩
theorem tpC_ag {g : Nat → Int32} {t : Nat} {M M' : Sg} {I A : List Nat} (h : tpC g t M) (a : ag I A M M') (h25 : 25 ∉ I) (h22 : 22 ∉ I) (h8 : 8 ∉ A) : tpC g t M' := ⟨h.1, (a.1 25 h25).trans h.2.1, (a.1 22 h22).trans h.2.2.1, fun i hi => by rw [a.2.1 8 h8]; exact h.2.2.2 i hi⟩
theorem z_scanC {n t : Nat} {g : Nat → Int32} {M : Sg} {Q : Sg → Prop} (hM : tpC g t M) (hq : ∀ ts M', TKs g t 0 ts → ag [19] [17, 18] M M' → tkC M' (ts ++ [(10016, t)]) → Q M') : wX6_scan n M Q := by
  have t6 : t ≤ 600 := hM.1
  intro M0 e0
  have loop : ∀ (k p bb : Nat) (A : List (Nat × Nat)) (M1 : Sg), p + k = t → bb ≤ t → A.length ≤ max p bb → ag [19] [17, 18] M M1 → tkC M1 A → (∀ ts, TKs g t (max p bb) ts → ∀ M', ag [19] [17, 18] M M' → tkC M' (A ++ ts ++ [(10016, t)]) → Q M') → vX6_scan_9 n Q (k + 1) M1 (nI bb) (nI p) := by
    intro k
    induction k with
    | zero =>
      intro p bb A M1 hp hb hA a hC hq
      have hM1 := tpC_ag hM a (by decide) (by decide) (by decide)
      refine ⟨fun _ => ?_, fun c => absurd (by rw [hM1.2.2.1]; exact nI_le (by omega) (by omega)) c⟩
      rw [hM1.2.2.1]
      refine z_addToken (T := 10016) hC (by omega) (fun M' a' hC' => hq [] (fun j h1 h2 => absurd h2 (by omega)) M' (ag_tr a a') ?_)
      rw [List.append_nil]
      exact hC'
    | succ k ih =>
      intro p bb A M1 hp hb hA a hC hq
      have hM1 := tpC_ag hM a (by decide) (by decide) (by decide)
      obtain ⟨-, h25, h22, h8⟩ := id hM1
      refine ⟨fun c => absurd c (by rw [h22]; exact nI_ge (by omega) (by omega)), fun _ => ⟨fun c y ey => ?_, fun c => ⟨h25, vp_in_nI (by omega) (by decide), ?_⟩⟩⟩
      · rw [nI_ltI (by omega) (by omega)] at c
        rw [ey, nI_1]
        have em : max (p + 1) bb = max p bb := by omega
        exact ih (p + 1) bb A M1 (by omega) hb (by omega) a hC (fun ts hts => hq ts (by rw [← em]; exact hts))
      · rw [nI_ltI (by omega) (by omega)] at c
        have em : max p bb = p := by omega
        rw [em] at hq hA
        rw [nI_clamp (by omega), h8 p (by omega)]
        refine z_blkC (fun q => ⟨fun _ y ey => ?_, fun c => absurd c (by decide)⟩) (fun q => ⟨fun c => absurd rfl c, fun _ => ?_⟩)
        · rw [ey, nI_1]
          have em' : max (p + 1) bb = p + 1 := by omega
          exact ih (p + 1) bb A M1 (by omega) hb (by omega) a hC (fun ts hts => hq ts (TKs_up q (by rw [← em']; exact hts)))
        · refine z_endOf hM1 (by omega) (fun e he => z_tokenOf hM1 he (fun T hT => z_addToken hC (by omega) (fun M2 a2 hC2 y ey => ?_)))
          rw [ey, nI_1]
          have e1 := he.1
          have em' : max (p + 1) e = e := by omega
          refine ih (p + 1) e (A ++ [(T, p)]) M2 (by omega) he.2.1 (by rw [List.length_append, List.length_singleton]; omega) (ag_tr a a2) hC2 (fun ts hts M' a' hC' => ?_)
          rw [em'] at hts
          refine hq ((T, p) :: ts) ⟨Nat.le_refl p, by omega, fun j h1 h2 => absurd h2 (by omega), q, e, he, hT, hts⟩ M' a' ?_
          rw [List.append_assoc A, List.singleton_append] at hC'
          exact hC'
  refine ⟨t + 1, loop t 0 0 [] M0 (by omega) (Nat.zero_le t) (Nat.zero_le _) (by rw [e0]; exact ag_sI ag_rf (by decide)) ⟨by rw [e0]; rfl, fun i hi => absurd hi (Nat.not_lt_zero i)⟩ (fun ts hts M' a' hC' => hq ts M' hts a' hC')⟩
