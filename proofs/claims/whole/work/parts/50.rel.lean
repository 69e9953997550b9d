/-! the two states side by side -/
/-- all but these registers and rows are the same -/
def ag (I A : List Nat) (M M' : Sg) : Prop := (∀ k, k ∉ I → gI M' k = gI M k) ∧ (∀ a, a ∉ A → gA M' a = gA M a) ∧ gJ M' 9 = gJ M 9
theorem ag_rf {I A : List Nat} {M : Sg} : ag I A M M := ⟨fun _ _ => rfl, fun _ _ => rfl, rfl⟩
theorem ag_tr {I A : List Nat} {M M' M'' : Sg} (h : ag I A M M') (g : ag I A M' M'') : ag I A M M'' := ⟨fun k hk => (g.1 k hk).trans (h.1 k hk), fun a ha => (g.2.1 a ha).trans (h.2.1 a ha), g.2.2.trans h.2.2⟩
theorem ag_mono {I A I' A' : List Nat} {M M' : Sg} (h : ag I A M M') (hI : ∀ k ∈ I, k ∈ I') (hA : ∀ k ∈ A, k ∈ A') : ag I' A' M M' := ⟨fun k hk => h.1 k (fun q => hk (hI k q)), fun a ha => h.2.1 a (fun q => ha (hA a q)), h.2.2⟩
theorem ag_sI {I A : List Nat} {M M' : Sg} {k : Nat} {v : Int32} (h : ag I A M M') (hk : k ∈ I) : ag I A M (sI M' k v) := ⟨fun j hj => by rw [gI_sI, if_neg (fun e : j = k => hj (by rw [e]; exact hk))]; exact h.1 j hj, fun a ha => h.2.1 a ha, h.2.2⟩
theorem ag_sA {I A : List Nat} {M M' : Sg} {b i : Nat} {v : Int32} (h : ag I A M M') (hb : b ∈ A) : ag I A M (sA M' b i v) := ⟨fun j hj => h.1 j hj, fun a ha => by rw [gA_sA, if_neg (fun e : a = b => ha (by rw [e]; exact hb))]; exact h.2.1 a ha, h.2.2⟩
def sumN (f : Nat → Nat) : Nat → Nat
  | 0 => 0
  | k + 1 => sumN f k + f k
/-- numbers, towns, days -/
def RelB (n w x : Nat) (C R : Sg) : Prop :=
  n ≤ 60 ∧ w ≤ 59 ∧ x ≤ 8 ∧ gI C 23 = nI n ∧ gI R 30 = nI n ∧ gI C 1 = nI w ∧ gI R 24 = nI w ∧ gI C 0 = nI x ∧ gI R 25 = nI x ∧
  (∀ k, k < 480 → gA C 0 k = gA R 26 k ∧ (gA R 26 k = -1 ∨ ∃ t, t ≤ 5 ∧ gA R 26 k = nI t)) ∧
  (∀ e d, x ≤ e → e < 8 → d < 60 → gA R 26 (60 * e + d) = -1 ∧ gA R 28 e = 0) ∧
  ∀ d, d < 60 → gA C 1 d = gA R 27 d
/-- learner j: what both sides hold of it -/
def RelL1 (x : Nat) (C R : Sg) (j : Nat) : Prop :=
  gA C 50 j = nI j ∧ gA C 51 j = gA R 37 j ∧ gA C 52 j = gA R 31 j ∧ gA C 53 j = gA R 32 j ∧ gA C 54 j = gA R 33 j ∧ gA C 55 j = gA R 34 j ∧ gA C 56 j = gA R 35 j ∧ gA C 57 j = gA R 36 j ∧ gA C 58 j = gA R 38 j ∧ gA C 59 j = gA R 39 j ∧ gA C 60 j = gA R 40 j ∧ gA C 61 j = gA R 41 j ∧
  (∃ t, t ≤ 5 ∧ gA R 31 j = nI t) ∧ (∃ t, t ≤ 59 ∧ gA R 33 j = nI t) ∧ (∃ t, t ≤ 59 ∧ gA R 34 j = nI t) ∧ (∃ t, t ≤ 59 ∧ gA R 35 j = nI t) ∧ (∃ t, t ≤ 3 ∧ gA R 38 j = nI t) ∧
  (gA R 38 j = 1 → ∃ s, s < 2880 ∧ s % 8 < x ∧ gA R 39 j = nI s) ∧ (gA R 38 j ≠ 1 → gA R 39 j = -1)
def RelL (n x : Nat) (C R : Sg) : Prop := ∀ j, j < n → RelL1 x C R j
/-- who is booked where -/
def RelK (n : Nat) (C R : Sg) : Prop :=
  (∀ i j, i < n → j < n → gA R 38 i = 1 → gA R 38 j = 1 → gA R 39 i = gA R 39 j → i = j) ∧
  ∀ s, s < 2880 → (gA C 2 s = -1 ∧ ∀ j, j < n → gA R 38 j = 1 → gA R 39 j ≠ nI s) ∨ ∃ j, j < n ∧ gA R 38 j = 1 ∧ gA R 39 j = nI s ∧ gA C 2 s = nI j
/-- tests and passes: at most i of them -/
def RelP (i : Nat) (C R : Sg) : Prop :=
  ∃ tf pf : Nat → Nat, (∀ e, e < 8 → gA C 3 e = nI (tf e) ∧ gA R 28 e = nI (tf e) ∧ gA C 4 e = nI (pf e) ∧ gA R 29 e = nI (pf e) ∧ pf e ≤ tf e) ∧ sumN tf 8 ≤ i ∧ gI C 2 = nI (sumN tf 8) ∧ gI R 42 = nI (sumN tf 8) ∧ gI C 3 = nI (sumN pf 8)
/-- which streets lie at a crossing -/
def inc (R : Sg) (c k : Nat) : Bool := decide (gA R 46 k = nI c) || decide (gA R 47 k = nI c)
def incs (R : Sg) (c m : Nat) : List Nat := (List.range m).filter (inc R c)
def RelS (m : Nat) (C R : Sg) : Prop :=
  m ≤ 24 ∧ gI C 5 = nI m ∧ gI R 45 = nI m ∧
  (∀ k, k < m → gA C 19 k = gA R 46 k ∧ gA C 20 k = gA R 47 k ∧ gA C 21 k = gA R 48 k ∧ gA C 22 k = gA R 49 k ∧ (∃ a b, a ≤ 11 ∧ b ≤ 11 ∧ a ≠ b ∧ gA R 46 k = nI a ∧ gA R 47 k = nI b) ∧ (∃ t, t ≤ 30 ∧ 1 ≤ t ∧ gA R 48 k = nI t) ∧ ∃ t, t ≤ 255 ∧ gA R 49 k = nI t) ∧
  (∀ k, k < 24 → gA C 23 k = gA R 50 k) ∧ (∀ k, k < 24 → gA R 51 k = 0) ∧
  ∀ c, c < 12 → (incs R c m).length ≤ 4 ∧ gA C 24 c = nI (incs R c m).length ∧ ∀ i, i < (incs R c m).length → gA C (30 + c) i = nI ((incs R c m).getD i 0)
/-- the route drawn latest -/
def RelD (C R : Sg) : Prop := ∃ d, d ≤ 8 ∧ gI C 6 = nI d ∧ gI R 55 = nI d ∧ ∀ i, i < d → gA C 26 i = gA R 54 i
/-- the tape -/
def sign (v : Int32) : Prop := v = 10 ∨ ∃ t, 32 ≤ t ∧ t ≤ 126 ∧ v = nI t
def RelF (C R : Sg) : Prop := ∃ t, t ≤ 600 ∧ gI C 14 = nI t ∧ gI R 2 = nI t ∧ ∀ i, i < t → gA C 8 i = gA R 1 i ∧ sign (gA R 1 i)
/-- a code of the class beside the reference's -/
def codeR (c o v : Int32) : Prop :=
  (∃ t, t ≤ 9999 ∧ c = nI t ∧ o = 1 ∧ v = nI t) ∨ (∃ f, f < 6 ∧ c = nI (10000 + f) ∧ o = 2 ∧ v = nI f) ∨ (c = nI 10006 ∧ o = 3) ∨ (c = nI 10007 ∧ o = 4) ∨ (c = nI 10008 ∧ o = 5) ∨ (c = nI 10009 ∧ o = 6) ∨ (c = nI 10010 ∧ o = 7)
/-- heights of a pile along codes from k to e -/
def hts (f : Nat → Int32) : Nat → Nat → Nat → Nat → Prop
  | 0, _, h, h' => h' = h
  | d + 1, k, h, h' => if f k ≤ nI 10005 then h < 16 ∧ hts f d (k + 1) (h + 1) h' else 2 ≤ h ∧ hts f d (k + 1) (h - 1) h'
/-- the text in force -/
def RelX (C R : Sg) : Prop :=
  ∃ (m hd : Nat) (st : Nat → Nat), m ≤ 16 ∧ hd ≤ 1 ∧ gI C 15 = nI m ∧ gI R 15 = nI hd ∧ gA R 10 hd = nI m ∧ st 0 = 0 ∧ st m ≤ 600 ∧
  ∀ i, i < m → st i ≤ st (i + 1) ∧ gA C 9 i = gA R 11 (16 * hd + i) ∧ (∃ t, t ≤ 99 ∧ gA R 11 (16 * hd + i) = nI t) ∧ gA C 10 i = nI (st (i + 1)) ∧ gA R 12 (16 * hd + i) = nI (660 * hd + st i + i) ∧
    (∀ k, st i ≤ k → k < st (i + 1) → codeR (gA C 11 k) (gA R 13 (660 * hd + k + i)) (gA R 14 (660 * hd + k + i))) ∧ gA R 13 (660 * hd + st (i + 1) + i) = 0 ∧ hts (gA C 11) (st (i + 1) - st i) (st i) 0 1
/-- the table of words; learners to come -/
def RelZ (n : Nat) (R : Sg) : Prop := gJ R 9 = gJ mini 9 ∧ ∀ j, n ≤ j → gA R 40 j = 0 ∧ gA R 41 j = 0
def Rel (i n : Nat) (C R : Sg) : Prop := (∃ w x, RelB n w x C R ∧ RelL n x C R) ∧ RelK n C R ∧ RelP i C R ∧ (∃ m, RelS m C R) ∧ RelD C R ∧ RelF C R ∧ RelX C R ∧ RelZ n R
/-! the start -/
theorem incs_0 (R : Sg) (c : Nat) : incs R c 0 = [] := rfl
theorem sumN_0 (k : Nat) : sumN (fun _ => 0) k = 0 := by
  induction k with
  | zero => rfl
  | succ k ih => show sumN (fun _ => 0) k + 0 = 0; rw [ih]
theorem Rel_init {C R : Sg} (hC : cInit C) (hR : mInit R) : Rel 0 0 C R := by
  obtain ⟨c1, c2, c3, c4⟩ := hC
  obtain ⟨r1, r2, r3, r4⟩ := hR
  have z : (0 : Int32) = nI 0 := rfl
  refine ⟨⟨0, 0, ⟨by omega, by omega, by omega, c1 23, r1 30, c1 1, r1 24, c1 0, r1 25, fun k hk => ⟨(c3 k hk).trans (r3 k hk).symm, Or.inl (r3 k hk)⟩, fun e d _ h1 h2 => ⟨r3 _ (by omega), r2 28 (by decide) e⟩, fun d hd => (c2 1 (by decide) (by decide) d).trans (r2 27 (by decide) d).symm⟩, fun j hj => absurd hj (Nat.not_lt_zero j)⟩, ⟨fun i j hi => absurd hi (Nat.not_lt_zero i), fun s hs => Or.inl ⟨c4 s hs, fun j hj => absurd hj (Nat.not_lt_zero j)⟩⟩, ⟨fun _ => 0, fun _ => 0, fun e he => ⟨c2 3 (by decide) (by decide) e, r2 28 (by decide) e, c2 4 (by decide) (by decide) e, r2 29 (by decide) e, Nat.le_refl 0⟩, by rw [sumN_0]; exact Nat.le_refl 0, by rw [sumN_0]; exact c1 2, by rw [sumN_0]; exact r1 42, by rw [sumN_0]; exact c1 3⟩, ⟨0, by omega, c1 5, r1 45, fun k hk => absurd hk (Nat.not_lt_zero k), fun k _ => (c2 23 (by decide) (by decide) k).trans (r2 50 (by decide) k).symm, fun k _ => r2 51 (by decide) k, fun c hc => ⟨by rw [incs_0]; exact Nat.zero_le 4, by rw [incs_0]; exact c2 24 (by decide) (by decide) c, fun i hi => by rw [incs_0] at hi; exact absurd hi (Nat.not_lt_zero i)⟩⟩, ⟨0, by omega, c1 6, r1 55, fun i hi => absurd hi (Nat.not_lt_zero i)⟩, ⟨0, by omega, c1 14, r1 2, fun i hi => absurd hi (Nat.not_lt_zero i)⟩, ⟨0, 0, fun _ => 0, by omega, by omega, c1 15, r1 15, r2 10 (by decide) 0, rfl, Nat.zero_le _, fun i hi => absurd hi (Nat.not_lt_zero i)⟩, r4, fun j _ => ⟨r2 40 (by decide) j, r2 41 (by decide) j⟩⟩
/-! leaves of the class -/
theorem z_within {n : Nat} {M : Sg} {a lo hi : Int32} {Q : Sg → Int32 → Prop} (h1 : a < lo ∨ hi < a → Q M 0) (h2 : lo ≤ a → a ≤ hi → Q M 1) : wX8_isWithin n M a lo hi Q := ⟨fun h => h1 (Or.inl h), fun h => ⟨fun g => h1 (Or.inr g), fun g => h2 (Int32.not_lt.mp h) (Int32.not_lt.mp g)⟩⟩
/-- of an int: below 0, from k on, or a number below k -/
theorem z_ix (x : Int32) {k : Nat} (hk : k < 2 ^ 31) : (x < 0 ∨ nI k ≤ x) ∨ ∃ j : Nat, j < k ∧ x = nI j := by
  rcases pk_ix x hk with h | h | h
  · exact Or.inl (Or.inl h)
  · exact Or.inl (Or.inr h)
  · exact Or.inr h
theorem z_isDay {n : Nat} {M : Sg} {a : Int32} {Q : Sg → Int32 → Prop} (h1 : a < 0 ∨ nI 60 ≤ a → Q M 0) (h2 : ∀ d, d < 60 → a = nI d → Q M 1) : wX8_isDay n M a Q := by
  refine ⟨fun h => h1 (Or.inl h), fun h => ⟨fun g => h1 (Or.inr g), fun g => ?_⟩⟩
  rcases z_ix a (k := 60) (by decide) with (q | q) | ⟨j, hj, e⟩
  · exact absurd q h
  · exact absurd q g
  · exact h2 j hj e
theorem z_isExaminer {n x : Nat} {M : Sg} {a : Int32} {Q : Sg → Int32 → Prop} (hx : gI M 0 = nI x) (hx8 : x ≤ 8) (h1 : a < 0 ∨ nI x ≤ a → Q M 0) (h2 : ∀ e, e < x → a = nI e → Q M 1) : wX0_isExaminer n M a Q := by
  refine ⟨fun h => h1 (Or.inl h), fun h => ⟨fun g => h1 (Or.inr (by rw [hx] at g; exact g)), fun g => ?_⟩⟩
  rcases z_ix a (k := x) (by omega) with (q | q) | ⟨j, hj, e⟩
  · exact absurd q h
  · exact absurd (by rw [hx]; exact q) g
  · exact h2 j hj e
