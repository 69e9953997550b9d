/-! texts: tokens, as the reference cuts them -/
def v37 (f : Nat → Nat) : Nat → Nat
  | 0 => 0
  | k + 1 => 37 * v37 f k + f k
theorem v37_lt {f : Nat → Nat} : ∀ (k : Nat), (∀ i, i < k → f i ≤ 36) → v37 f k < 37 ^ k := by
  intro k
  induction k with
  | zero => intro _; exact Nat.one_pos
  | succ k ih =>
    intro h
    have := h k (Nat.lt_succ_self k)
    have := ih (fun i hi => h i (by omega))
    show 37 * v37 f k + f k < 37 ^ (k + 1)
    rw [Nat.pow_succ]
    omega
theorem v37_inj : ∀ (k k' : Nat) (f f' : Nat → Nat), (∀ i, i < k → 1 ≤ f i ∧ f i ≤ 36) → (∀ i, i < k' → 1 ≤ f' i ∧ f' i ≤ 36) → v37 f k = v37 f' k' → k = k' ∧ ∀ i, i < k → f i = f' i := by
  intro k
  induction k with
  | zero =>
    intro k' f f' _ h' e
    cases k' with
    | zero => exact ⟨rfl, fun i hi => absurd hi (Nat.not_lt_zero i)⟩
    | succ k' =>
      have := h' k' (Nat.lt_succ_self k')
      have e : 0 = 37 * v37 f' k' + f' k' := e
      omega
  | succ k ih =>
    intro k' f f' h h' e
    have a := h k (Nat.lt_succ_self k)
    cases k' with
    | zero =>
      have e : 37 * v37 f k + f k = 0 := e
      omega
    | succ k' =>
      have b := h' k' (Nat.lt_succ_self k')
      have e : 37 * v37 f k + f k = 37 * v37 f' k' + f' k' := e
      have e1 : f k = f' k' := by omega
      have e2 : v37 f k = v37 f' k' := by omega
      obtain ⟨i1, i2⟩ := ih k' f f' (fun i hi => h i (by omega)) (fun i hi => h' i (by omega)) e2
      subst i1
      refine ⟨rfl, fun i hi => ?_⟩
      by_cases z : i = k
      · rw [z]; exact e1
      · exact i2 i (by omega)
theorem v37_cong {f f' : Nat → Nat} : ∀ (k : Nat), (∀ i, i < k → f i = f' i) → v37 f k = v37 f' k := by
  intro k
  induction k with
  | zero => intro _; rfl
  | succ k ih =>
    intro h
    show 37 * v37 f k + f k = 37 * v37 f' k + f' k
    rw [ih (fun i hi => h i (by omega)), h k (Nat.lt_succ_self k)]
def r1 (v : Int32) : Nat := v.toNatClampNeg - 96
def wds (w : Nat) : Int64 := gJ mini 9 w
theorem wds_v : ∀ w, w < 9 → wds w = lN (v37 (fun i => r1 (sC w i)) (sLen.getD w 0)) := by decide +kernel
theorem wds_r : ∀ w, w < 9 → ∀ i, i < sLen.getD w 0 → (1 ≤ r1 (sC w i) ∧ r1 (sC w i) ≤ 36 ∧ sC w i = nI (96 + r1 (sC w i))) := by decide +kernel
theorem wds_inj : ∀ a, a < 9 → ∀ b, b < 9 → wds a = wds b → a = b := by decide +kernel
theorem wcode_inj : ∀ a, a < 9 → ∀ b, b < 9 → wcode a = wcode b → a = b := by decide +kernel
theorem wcode_x : ∀ w, w < 9 → 10000 ≤ wcode w ∧ wcode w ≤ 10012 ∧ (wcode w ≤ 10005 ∨ 10010 ≤ wcode w) := by decide +kernel
abbrev sgs : List Nat := [40, 41, 43, 45, 59, 60, 61]
theorem sgT_x : ∀ c ∈ sgs, 10006 ≤ sgT (nI c) ∧ sgT (nI c) ≤ 10015 ∧ (sgT (nI c) ≤ 10009 ∨ 10013 ≤ sgT (nI c)) := by decide +kernel
theorem sgT_inj : ∀ a ∈ sgs, ∀ b ∈ sgs, sgT (nI a) = sgT (nI b) → a = b := by decide +kernel
theorem r1_n {v : Int32} {r : Nat} (h : v = nI (96 + r)) (hr : r ≤ 36) : r1 v = r := by
  unfold r1
  rw [h, nI_clamp (by omega)]
  omega
theorem spl_v {g : Nat → Int32} {p e w : Nat} (hw : w < 9) (h8 : e - p ≤ 8) (hl : ∀ j, p ≤ j → j < e → ltr (g j)) : lN (v37 (fun i => r1 (g (p + i))) (e - p)) = wds w ↔ spl g p e w := by
  have hs := sLen_le w hw
  have hr : ∀ i, i < e - p → 1 ≤ r1 (g (p + i)) ∧ r1 (g (p + i)) ≤ 36 ∧ g (p + i) = nI (96 + r1 (g (p + i))) := fun i hi => by
    obtain ⟨r, a1, a2, a3⟩ := ltr_n (hl (p + i) (by omega) (by omega))
    rw [r1_n a3 (by omega)]
    exact ⟨a1, by omega, a3⟩
  have b1 : v37 (fun i => r1 (g (p + i))) (e - p) < 2 ^ 63 := Nat.lt_of_lt_of_le (v37_lt _ (fun i hi => (hr i hi).2.1)) (Nat.le_trans (Nat.pow_le_pow_right (by decide) h8) (by decide))
  have b2 : v37 (fun i => r1 (sC w i)) (sLen.getD w 0) < 2 ^ 63 := Nat.lt_of_lt_of_le (v37_lt _ (fun i hi => (wds_r w hw i hi).2.1)) (Nat.le_trans (Nat.pow_le_pow_right (by decide) (show sLen.getD w 0 ≤ 8 by omega)) (by decide))
  rw [wds_v w hw, pk_lEQ b1 b2]
  constructor
  · intro q
    obtain ⟨i1, i2⟩ := v37_inj _ _ _ _ (fun i hi => ⟨(hr i hi).1, (hr i hi).2.1⟩) (fun i hi => ⟨(wds_r w hw i hi).1, (wds_r w hw i hi).2.1⟩) q
    refine ⟨i1, fun i hi => ?_⟩
    have := i2 i (by omega)
    rw [(hr i (by omega)).2.2, (wds_r w hw i hi).2.2, this]
  · rintro ⟨i1, i2⟩
    rw [i1]
    exact v37_cong _ (fun i hi => by rw [i2 i hi])
/-- a token's number beside the reference's sort and value -/
def tk (T : Nat) (s : Int32) (v : Int64) : Prop := (s = 2 ↔ T ≤ 9999) ∧ (T ≤ 9999 → v = lN T) ∧ (s = 0 ↔ T = 10016) ∧ (∀ w, w < 9 → ((s = 1 ∧ v = wds w) ↔ T = wcode w)) ∧ ∀ c ∈ sgs, ((s = 3 ∧ v = lN c) ↔ T = sgT (nI c))
theorem tk_none (v : Int64) : tk 10017 4 v := by
  refine ⟨⟨fun q => absurd q (by decide), fun q => absurd q (by decide)⟩, fun q => absurd q (by decide), ⟨fun q => absurd q (by decide), fun q => absurd q (by decide)⟩, fun w hw => ⟨fun q => absurd q.1 (by decide), fun q => ?_⟩, fun c hc => ⟨fun q => absurd q.1 (by decide), fun q => ?_⟩⟩
  · have := wcode_x w hw; omega
  · have := sgT_x c hc; omega
theorem tk_end (v : Int64) : tk 10016 0 v := by
  refine ⟨⟨fun q => absurd q (by decide), fun q => absurd q (by decide)⟩, fun q => absurd q (by decide), ⟨fun _ => rfl, fun _ => rfl⟩, fun w hw => ⟨fun q => absurd q.1 (by decide), fun q => ?_⟩, fun c hc => ⟨fun q => absurd q.1 (by decide), fun q => ?_⟩⟩
  · have := wcode_x w hw; omega
  · have := sgT_x c hc; omega
theorem tk_num {T : Nat} (h : T ≤ 9999) : tk T 2 (lN T) := by
  refine ⟨⟨fun _ => h, fun _ => rfl⟩, fun _ => rfl, ⟨fun q => absurd q (by decide), fun q => by omega⟩, fun w hw => ⟨fun q => absurd q.1 (by decide), fun q => ?_⟩, fun c hc => ⟨fun q => absurd q.1 (by decide), fun q => ?_⟩⟩
  · have := wcode_x w hw; omega
  · have := sgT_x c hc; omega
theorem tk_sign {c0 : Nat} (h : c0 ∈ sgs) : tk (sgT (nI c0)) 3 (lN c0) := by
  have h0 := sgT_x c0 h
  have hb : ∀ c ∈ sgs, c < 2 ^ 31 := by decide
  refine ⟨⟨fun q => absurd q (by decide), fun q => by omega⟩, fun q => by omega, ⟨fun q => absurd q (by decide), fun q => by omega⟩, fun w hw => ⟨fun q => absurd q.1 (by decide), fun q => ?_⟩, fun c hc => ⟨fun q => ?_, fun q => ?_⟩⟩
  · have := wcode_x w hw; omega
  · rw [lN_eq (hb c0 h) (hb c hc)] at q
    rw [q.2]
  · rw [sgT_inj c0 h c hc q]
    exact ⟨rfl, rfl⟩
theorem tk_word {g : Nat → Int32} {p e T : Nat} (hT : wT g p e T) (h8 : e - p ≤ 8) (hl : ∀ j, p ≤ j → j < e → ltr (g j)) : tk T 1 (lN (v37 (fun i => r1 (g (p + i))) (e - p))) := by
  have hx : ¬ T ≤ 9999 ∧ ¬ T = 10016 ∧ ∀ c ∈ sgs, ¬ T = sgT (nI c) := by
    rcases hT with ⟨w, w1, w2, w3⟩ | ⟨-, w3⟩
    · have := wcode_x w w1
      refine ⟨by omega, by omega, fun c hc q => ?_⟩
      have := sgT_x c hc
      omega
    · refine ⟨by omega, by omega, fun c hc q => ?_⟩
      have := sgT_x c hc
      omega
  refine ⟨⟨fun q => absurd q (by decide), fun q => absurd q hx.1⟩, fun q => absurd q hx.1, ⟨fun q => absurd q (by decide), fun q => absurd q hx.2.1⟩, fun w hw => ?_, fun c hc => ⟨fun q => absurd q.1 (by decide), fun q => absurd q (hx.2.2 c hc)⟩⟩
  rw [spl_v hw h8 hl]
  rcases hT with ⟨w0, w1, w2, w3⟩ | ⟨w2, w3⟩
  · constructor
    · rintro ⟨-, q⟩
      have a1 := (spl_v w1 h8 hl).mpr w2
      have a2 := (spl_v hw h8 hl).mpr q
      rw [w3, wds_inj w0 w1 w hw (a1.symm.trans a2)]
    · intro q
      rw [w3] at q
      have := wcode_inj w0 w1 w hw q
      subst this
      exact ⟨rfl, w2⟩
  · constructor
    · rintro ⟨-, q⟩; exact absurd q (w2 w hw)
    · intro q
      have := wcode_x w hw
      omega
def tpM (g : Nat → Int32) (t : Nat) (M : Sg) : Prop := t ≤ 600 ∧ gI M 3 = nI t ∧ ∀ i, i < t → gA M 1 i = g i ∧ sign (g i)
theorem z_cutW {K17 : Sg → Int32 → Int32 → Prop} {Q : Sg → Prop} {M : Sg} {x1 : Int32} {g : Nat → Int32} {t p e : Nat} (hM : tpM g t M) (he : isEnd g t p e) (hl : ltr (g p)) (hq : vX9_cutAll_129 K17 Q M x1 (nI e) (nI p) (lN (v37 (fun i => r1 (g (p + i))) (min 8 (e - p))))) : ∃ f, vX9_cutAll_70 K17 Q f M x1 (nI p) (nI p) (0 : Int64) := by
  obtain ⟨t6, h3, h1⟩ := hM
  obtain ⟨e1, e2, e3, -⟩ := he
  have loop : ∀ (k q : Nat), q + k = e → p ≤ q → vX9_cutAll_70 K17 Q (k + 1) M x1 (nI q) (nI p) (lN (v37 (fun i => r1 (g (p + i))) (min 8 (q - p)))) := by
    intro k
    induction k with
    | zero =>
      intro q hqe hp
      have eq : q = e := by omega
      subst eq
      refine ⟨fun _ => hq, fun c => ?_⟩
      rw [h3, nI_leI (by omega) (by omega)] at c
      refine ⟨vp_in_nI (by omega) (by decide), ?_⟩
      rw [nI_clamp (by omega), (h1 q (by omega)).1]
      refine z_ltrM (fun z => absurd z ((e3 hl).2.resolve_left (by omega))) (fun _ => ⟨fun _ => hq, fun c => absurd rfl c⟩)
    | succ k ih =>
      intro q hqe hp
      have hq1 := (e3 hl).1 q hp (by omega)
      obtain ⟨r, r1', r2, r3⟩ := ltr_n hq1
      refine ⟨fun c => absurd c (by rw [h3]; exact nI_ge (by omega) (by omega)), fun _ => ⟨vp_in_nI (by omega) (by decide), ?_⟩⟩
      rw [nI_clamp (by omega), (h1 q (by omega)).1, pk_sub hp, show (8 : Int32) = nI 8 from rfl, nI_leI (by omega) (by omega)]
      refine z_ltrM (fun _ => ⟨fun c => absurd c (by decide), fun _ => ⟨fun c y ey => ?_, fun c => ⟨vp_in_nI (by omega) (by decide), ?_⟩⟩⟩) (fun z => absurd hq1 z)
      · rw [ey, nI_1]
        have := ih (q + 1) (by omega) (by omega)
        rw [show min 8 (q + 1 - p) = min 8 (q - p) by omega] at this
        exact this
      · rw [(h1 q (by omega)).1]
        unfold wX9_rank
        refine z_ltrM (fun _ => ⟨fun c => absurd c (by decide), fun _ y ey => ?_⟩) (fun z => absurd hq1 z)
        rw [ey, nI_1]
        have := ih (q + 1) (by omega) (by omega)
        rw [show min 8 (q + 1 - p) = (q - p) + 1 by omega] at this
        rw [show min 8 (q - p) = q - p by omega, r3, show (96 : Int32) = nI 96 from rfl, pk_sub (by omega), show 96 + r - 96 = r by omega, nI_l (by omega), show (37 : Int64) = lN 37 from rfl, lN_mul, lN_add]
        have ev : v37 (fun i => r1 (g (p + i))) (q - p + 1) = 37 * v37 (fun i => r1 (g (p + i))) (q - p) + r := by
          show 37 * v37 (fun i => r1 (g (p + i))) (q - p) + r1 (g (p + (q - p))) = _
          rw [show p + (q - p) = q by omega, r1_n r3 (by omega)]
        rw [ev] at this
        exact this
  refine ⟨e - p + 1, ?_⟩
  have := loop (e - p) p (by omega) (Nat.le_refl p)
  rw [show min 8 (p - p) = 0 by omega] at this
  exact this
theorem z_cutN {K17 : Sg → Int32 → Int32 → Prop} {Q : Sg → Prop} {M : Sg} {x1 : Int32} {g : Nat → Int32} {t p e : Nat} (hM : tpM g t M) (he : isEnd g t p e) (hd : dgt (g p)) (hq : vX9_cutAll_218 K17 Q M x1 (nI e) (nI p) (lN (nv g p (min 4 (e - p))))) : ∃ f, vX9_cutAll_159 K17 Q f M x1 (nI p) (nI p) (0 : Int64) := by
  obtain ⟨t6, h3, h1⟩ := hM
  obtain ⟨e1, e2, -, e4, -⟩ := he
  have loop : ∀ (k q : Nat), q + k = e → p ≤ q → vX9_cutAll_159 K17 Q (k + 1) M x1 (nI q) (nI p) (lN (nv g p (min 4 (q - p)))) := by
    intro k
    induction k with
    | zero =>
      intro q hqe hp
      have eq : q = e := by omega
      subst eq
      refine ⟨fun _ => hq, fun c => ?_⟩
      rw [h3, nI_leI (by omega) (by omega)] at c
      refine ⟨vp_in_nI (by omega) (by decide), ?_⟩
      rw [nI_clamp (by omega), (h1 q (by omega)).1]
      refine z_dgtM (fun z => absurd z ((e4 hd).2.resolve_left (by omega))) (fun _ => ⟨fun _ => hq, fun c => absurd rfl c⟩)
    | succ k ih =>
      intro q hqe hp
      have hq1 := (e4 hd).1 q hp (by omega)
      obtain ⟨d, d1, d2⟩ := dgt_n hq1
      refine ⟨fun c => absurd c (by rw [h3]; exact nI_ge (by omega) (by omega)), fun _ => ⟨vp_in_nI (by omega) (by decide), ?_⟩⟩
      rw [nI_clamp (by omega), (h1 q (by omega)).1, pk_sub hp, show (4 : Int32) = nI 4 from rfl, nI_leI (by omega) (by omega)]
      refine z_dgtM (fun _ => ⟨fun c => absurd c (by decide), fun _ => ⟨fun c y ey => ?_, fun c => ⟨vp_in_nI (by omega) (by decide), fun y ey => ?_⟩⟩⟩) (fun z => absurd hq1 z)
      · rw [ey, nI_1]
        have := ih (q + 1) (by omega) (by omega)
        rw [show min 4 (q + 1 - p) = min 4 (q - p) by omega] at this
        exact this
      · rw [ey, nI_1]
        have := ih (q + 1) (by omega) (by omega)
        rw [show min 4 (q + 1 - p) = (q - p) + 1 by omega, nv_s d1 (show g (p + (q - p)) = nI (48 + d) by rw [show p + (q - p) = q by omega]; exact d2)] at this
        rw [(h1 q (by omega)).1, show min 4 (q - p) = q - p by omega, d2, nI_l (by omega), show (10 : Int64) = lN 10 from rfl, show (48 : Int64) = lN 48 from rfl, lN_mul, lN_add, lN_sub (by omega), show 10 * nv g p (q - p) + (48 + d) - 48 = 10 * nv g p (q - p) + d by omega]
        exact this
  refine ⟨e - p + 1, ?_⟩
  have := loop (e - p) p (by omega) (Nat.le_refl p)
  rw [show min 4 (p - p) = 0 by omega] at this
  exact this
def tkM (M : Sg) (L : List (Nat × Nat)) : Prop := ∀ i, i < L.length → tk (L.getD i (0, 0)).1 (gA M 4 i) (gJ M 6 i) ∧ gA M 5 i = nI (L.getD i (0, 0)).2
theorem tkM_s {M M' : Sg} {A : List (Nat × Nat)} {T p : Nat} {s : Int32} {v : Int64} (h : tkM M A) (ht : tk T s v) (h4 : gA M' 4 = upd (gA M 4) A.length s) (h5 : gA M' 5 = upd (gA M 5) A.length (nI p)) (h6 : gJ M' 6 = vp_updL (gJ M 6) A.length v) : tkM M' (A ++ [(T, p)]) := by
  intro i hi
  rw [List.length_append, List.length_singleton] at hi
  rw [z_getDp, h4, h5, h6]
  by_cases c : i < A.length
  · rw [if_pos c, pk_un (by omega), pk_un (by omega), pk_uLn (by omega)]; exact h i c
  · have e : i = A.length := by omega
    rw [if_neg c, if_pos e, e, pk_us, pk_us, pk_uLs]
    exact ⟨ht, rfl⟩
theorem z_isSignOf {M : Sg} {v : Int32} {Q : Sg → Int32 → Prop} (h1 : ∀ c ∈ sgs, v = nI c → Q M 1) (h0 : sgT v = 10017 → Q M 0) : wX9_isSignOf M v Q := by
  refine ⟨fun e => h1 40 (by decide) e, fun q0 => ⟨fun e => h1 41 (by decide) e, fun q1 => ⟨fun e => h1 59 (by decide) e, fun q19 => ⟨fun e => h1 61 (by decide) e, fun q21 => ⟨fun e => h1 60 (by decide) e, fun q20 => ⟨fun e => h1 43 (by decide) e, fun q3 => ⟨fun q5 => h0 ?_, fun e => h1 45 (by decide) e⟩⟩⟩⟩⟩⟩⟩
  unfold sgT
  rw [if_neg q0, if_neg q1, if_neg q3, if_neg q5, if_neg q19, if_neg q20, if_neg q21]
theorem sign_n {v : Int32} (h : sign v) : ∃ c, c ≤ 126 ∧ v = nI c := by
  rcases h with h | ⟨c, -, c2, c3⟩
  · exact ⟨10, by decide, h⟩
  · exact ⟨c, c2, c3⟩
theorem z_cutAll {t : Nat} {g : Nat → Int32} {ts : List (Nat × Nat)} {M : Sg} {Q : Sg → Prop} (t6 : t ≤ 600) (h2 : gI M 2 = nI t) (hg : ∀ i, i < t → gA M 1 i = g i ∧ sign (g i)) (hts : TKs g t 0 ts) (hq : ∀ M', ag [2, 3, 7, 8] [4, 5] M M' → gI M' 2 = 0 → gI M' 7 = 0 → gI M' 8 = 0 → tkM M' (ts ++ [(10016, t)]) → Q M') : wX9_cutAll M Q := by
  intro Ma ea Mb eb
  have loop : ∀ (k pos : Nat) (A ts : List (Nat × Nat)) (M1 : Sg), pos ≤ t → t - pos ≤ k → A.length ≤ pos → TKs g t pos ts → ag [2, 3, 7, 8] [4, 5] M M1 → gI M1 2 = 0 → gI M1 3 = nI t → tkM M1 A → (∀ M', ag [2, 3, 7, 8] [4, 5] M M' → gI M' 2 = 0 → gI M' 7 = 0 → gI M' 8 = 0 → tkM M' (A ++ ts ++ [(10016, t)]) → Q M') → vX9_cutAll_17 Q (k + 1) M1 (nI A.length) (nI pos) := by
    intro k
    induction k with
    | zero =>
      intro pos A ts M1 hp hk hA hts a i2 i3 hA1 hq
      have ep : pos = t := by omega
      subst ep
      have hin : vp_in (nI A.length) 602 := vp_in_nI (by omega) (by decide)
      have ets : ts = [] := by
        cases ts with
        | nil => rfl
        | cons a ts => obtain ⟨q1, q2, -⟩ := hts; omega
      subst ets
      refine ⟨fun _ => ⟨hin, fun Mc ec => ⟨hin, fun Md ed Me ee Mf ef => ?_⟩⟩, fun c => absurd (by rw [i3]; exact Int32.le_refl _) c⟩
      have i3c : gI Mc 3 = nI pos := by rw [ec]; exact i3
      rw [nI_clamp (by omega)] at ec ed
      rw [i3c] at ed
      subst ec ed ee ef
      refine hq _ (ag_sI (ag_sI (ag_sA (ag_sA a (by decide)) (by decide)) (by decide)) (by decide)) i2 rfl rfl ?_
      rw [List.append_nil]
      intro i hi
      rw [List.length_append, List.length_singleton] at hi
      rw [z_getDp]
      show tk _ (upd (gA M1 4) A.length 0 i) (gJ M1 6 i) ∧ upd (gA M1 5) A.length (nI pos) i = _
      by_cases c : i < A.length
      · rw [if_pos c, pk_un (by omega), pk_un (by omega)]; exact hA1 i c
      · have e : i = A.length := by omega
        rw [if_neg c, if_pos e, e, pk_us, pk_us]
        exact ⟨tk_end _, rfl⟩
    | succ k ih =>
      intro pos A ts M1 hp hk hA hts a i2 i3 hA1 hq
      have hin : vp_in (nI A.length) 602 := vp_in_nI (by omega) (by decide)
      have hcl : (nI A.length).toNatClampNeg = A.length := nI_clamp (by omega)
      by_cases ep : pos = t
      · subst ep
        have ets : ts = [] := by
          cases ts with
          | nil => rfl
          | cons a ts => obtain ⟨q1, q2, -⟩ := hts; omega
        subst ets
        refine ⟨fun _ => ⟨hin, fun Mc ec => ⟨hin, fun Md ed Me ee Mf ef => ?_⟩⟩, fun c => absurd (by rw [i3]; exact Int32.le_refl _) c⟩
        have i3c : gI Mc 3 = nI pos := by rw [ec]; exact i3
        rw [hcl] at ec ed
        rw [i3c] at ed
        subst ec ed ee ef
        refine hq _ (ag_sI (ag_sI (ag_sA (ag_sA a (by decide)) (by decide)) (by decide)) (by decide)) i2 rfl rfl ?_
        rw [List.append_nil]
        intro i hi
        rw [List.length_append, List.length_singleton] at hi
        rw [z_getDp]
        show tk _ (upd (gA M1 4) A.length 0 i) (gJ M1 6 i) ∧ upd (gA M1 5) A.length (nI pos) i = _
        by_cases c : i < A.length
        · rw [if_pos c, pk_un (by omega), pk_un (by omega)]; exact hA1 i c
        · have e : i = A.length := by omega
          rw [if_neg c, if_pos e, e, pk_us, pk_us]
          exact ⟨tk_end _, rfl⟩
      · have hpt : pos < t := by omega
        have ep1 : gA M1 1 pos = g pos := by rw [a.2.1 1 (by decide)]; exact (hg pos hpt).1
        refine ⟨fun c => absurd c (by rw [i3]; exact nI_ge hpt (by omega)), fun _ => ⟨vp_in_nI (by omega) (by decide), fun v ev => ?_⟩⟩
        rw [nI_clamp (by omega), ep1] at ev
        subst ev
        have blank : blk (g pos) → vX9_cutAll_44 (vX9_cutAll_17 Q (k + 1)) Q M1 (nI A.length) (nI pos) := fun hb y ey => by
          rw [ey, nI_1]
          exact ih (pos + 1) A ts M1 (by omega) (by omega) (by omega) (TKs_dn hb hts) a i2 i3 hA1 hq
        refine ⟨fun c => blank (Or.inl c), fun c10 => ⟨fun c32 => ⟨hin, fun Mc ec => ?_⟩, fun c => blank (Or.inr c)⟩⟩
        rw [hcl] at ec
        have nb : ¬ blk (g pos) := fun q => q.elim c10 c32
        obtain ⟨T, e, ts', ets, he, hT, hts'⟩ : ∃ T e ts', ts = (T, pos) :: ts' ∧ isEnd g t pos e ∧ tokT g pos e T ∧ TKs g t e ts' := by
          cases ts with
          | nil => exact absurd (hts pos (Nat.le_refl _) hpt) nb
          | cons b ts' =>
            obtain ⟨T, p⟩ := b
            obtain ⟨q1, q2, q3, q4, e, q5, q6, q7⟩ := hts
            have : p = pos := by
              rcases Nat.lt_or_ge pos p with z | z
              · exact absurd (q3 pos (Nat.le_refl _) z) nb
              · omega
            subst this
            exact ⟨T, e, ts', rfl, q5, q6, q7⟩
        subst ets
        have he1 := he.1
        have he2 := he.2.1
        have hMc : tpM g t Mc := ⟨t6, by rw [ec]; exact i3, fun i hi => by rw [ec]; show gA M1 1 i = _ ∧ _; rw [a.2.1 1 (by decide)]; exact hg i hi⟩
        have fin : ∀ (s : Int32) (v : Int64) (Ms : Sg), Ms = sA Mc 4 A.length s → tk T s v → vX9_cutAll_265 (vX9_cutAll_17 Q (k + 1)) Q Ms (nI A.length) (nI e) v := by
          intro s v Ms es ht
          refine ⟨hin, fun Md ed y ey => ?_⟩
          rw [hcl] at ed
          have el : nI A.length + 1 = nI (A ++ [(T, pos)]).length := by rw [List.length_append, List.length_singleton, nI_1]
          rw [ey, el]
          subst ec es ed
          refine ih e (A ++ [(T, pos)]) ts' _ he2 (by omega) (by rw [List.length_append, List.length_singleton]; omega) hts' ?_ i2 i3 (tkM_s hA1 ht rfl rfl rfl) (fun M' b1 b2 b3 b4 b5 => hq M' b1 b2 b3 b4 ?_)
          · have a2 : ag [2, 3, 7, 8] [4, 5] M (sA (sA M1 5 A.length (nI pos)) 4 A.length s) := ag_sA (ag_sA a (by decide)) (by decide)
            exact ⟨a2.1, a2.2.1, a2.2.2⟩
          · rw [List.append_assoc A, List.singleton_append] at b5
            exact b5
        refine z_ltrM (fun hl => ⟨fun c => absurd c (by decide), fun _ => z_cutW hMc he hl ?_⟩) (fun hl => ⟨fun _ => z_dgtM (fun hd => ⟨fun c => absurd c (by decide), fun _ => z_cutN hMc he hd ?_⟩) (fun hd => ⟨fun _ v ev => ?_, fun c => absurd rfl c⟩), fun c => absurd rfl c⟩)
        · have hw : wT g pos e T := by
            rcases hT with ⟨-, h⟩ | ⟨h, -⟩ | ⟨h, -⟩
            · exact h
            · exact absurd hl h
            · exact absurd hl h
          have hall := (he.2.2.1 hl).1
          unfold vX9_cutAll_129
          rw [pk_sub (by omega), show (8 : Int32) = nI 8 from rfl, nI_leI (by omega) (by omega)]
          refine ⟨fun c => ⟨hin, fun Md ed => ?_⟩, fun c => ⟨hin, fun Md ed => ?_⟩⟩
          · rw [hcl] at ed
            rw [show min 8 (e - pos) = e - pos by omega]
            exact fin 1 _ Md ed (tk_word hw c hall)
          · rw [hcl] at ed
            have eT : T = 10017 := by
              rcases hw with ⟨w, w1, w2, -⟩ | ⟨-, h⟩
              · have := sLen_le w w1
                have := w2.1
                omega
              · exact h
            refine fin 4 _ Md ed ?_
            rw [eT]
            exact tk_none _
        · have hn : (e - pos ≤ 4 ∧ T = nv g pos (e - pos)) ∨ (4 < e - pos ∧ T = 10017) := by
            rcases hT with ⟨h, -⟩ | ⟨-, -, h⟩ | ⟨-, h, -⟩
            · exact absurd h hl
            · exact h
            · exact absurd hd h
          have hall := (he.2.2.2.1 hd).1
          unfold vX9_cutAll_218
          rw [pk_sub (by omega), show (4 : Int32) = nI 4 from rfl, nI_leI (by omega) (by omega)]
          refine ⟨fun c => ⟨hin, fun Md ed => ?_⟩, fun c => ⟨hin, fun Md ed => ?_⟩⟩
          · rw [hcl] at ed
            have eT : T = nv g pos (e - pos) := by
              rcases hn with h | h
              · exact h.2
              · omega
            rw [show min 4 (e - pos) = e - pos by omega, ← eT]
            refine fin 2 _ Md ed (tk_num ?_)
            have b1 := nv_lt (g := g) (p := pos) (e - pos) (fun i hi => hall (pos + i) (by omega) (by omega))
            have b2 : 10 ^ (e - pos) ≤ 10 ^ 4 := Nat.pow_le_pow_right (by decide) c
            rw [← eT] at b1
            omega
          · rw [hcl] at ed
            have eT : T = 10017 := by
              rcases hn with h | h
              · omega
              · exact h.2
            refine fin 4 _ Md ed ?_
            rw [eT]
            exact tk_none _
        · have eT : T = sgT (g pos) := by
            rcases hT with ⟨h, -⟩ | ⟨-, h, -⟩ | ⟨-, -, h⟩
            · exact absurd h hl
            · exact absurd h hd
            · exact h
          have ee : e = pos + 1 := he.2.2.2.2 hl hd
          subst ev
          have last : ∀ (s : Int32), tk T s (g pos).toInt64 → vX9_cutAll_261 (vX9_cutAll_17 Q (k + 1)) Q Mc (nI A.length) (nI pos) (g pos).toInt64 s (nI A.length) := fun s ht => by
            refine ⟨hin, fun Md ed y ey => ?_⟩
            rw [hcl] at ed
            rw [ey, nI_1, ← ee]
            exact fin s _ Md ed ht
          refine z_isSignOf (fun c hc ec => ⟨fun q => absurd q (by decide), fun _ => last 3 ?_⟩) (fun q => ⟨fun _ => last 4 ?_, fun c => absurd rfl c⟩)
          · have hb : ∀ c ∈ sgs, c < 2 ^ 31 := by decide
            rw [eT, ec, nI_l (hb c hc)]
            exact tk_sign hc
          · rw [eT, q]
            exact tk_none _
  subst ea eb
  rw [h2]
  exact ⟨t + 1, loop t 0 [] ts _ (Nat.zero_le t) (by omega) (Nat.zero_le 0) hts (ag_sI (ag_sI ag_rf (by decide)) (by decide)) rfl rfl (fun i hi => absurd hi (Nat.not_lt_zero i)) (fun M' b1 b2 b3 b4 b5 => hq M' b1 b2 b3 b4 b5)⟩
