/-! street -/
theorem incs_s (R : Sg) (c m : Nat) : incs R c (m + 1) = incs R c m ++ (if inc R c m = true then [m] else []) := by
  unfold incs
  rw [List.range_succ, List.filter_append]
  congr 1
  cases h : inc R c m with
  | true => rw [if_pos rfl]; simp [List.filter, h]
  | false => rw [if_neg (by decide)]; simp [List.filter, h]
theorem incs_cong {R R' : Sg} {c : Nat} : ∀ (m : Nat), (∀ k, k < m → inc R' c k = inc R c k) → incs R' c m = incs R c m := by
  intro m
  induction m with
  | zero => intro _; rfl
  | succ m ih =>
    intro h
    rw [incs_s, incs_s, ih (fun k hk => h k (by omega)), h m (Nat.lt_succ_self m)]
theorem incs_le (R : Sg) (c m : Nat) : (incs R c m).length ≤ m := by
  unfold incs
  exact Nat.le_trans (List.length_filter_le _ _) (by rw [List.length_range]; exact Nat.le_refl m)
theorem z_streetsAt {m c : Nat} {C R : Sg} {Q : Sg → Int32 → Prop} (hS : RelS m C R) (hq : Q R (nI (incs R c m).length)) : wX9_streetsAt R (nI c) Q := by
  have hm : m ≤ 24 := hS.1
  have hc : gI R 45 = nI m := hS.2.2.1
  have loop : ∀ (k l : Nat), l + k = m → ∃ f, vX9_streetsAt_4 Q f R (nI c) (nI (incs R c l).length) (nI l) := by
    intro k
    induction k with
    | zero =>
      intro l hl
      refine ⟨1, fun _ => ?_, fun q => absurd (by rw [hc]; exact nI_le (by omega) (by omega)) q⟩
      rw [show l = m by omega]; exact hq
    | succ k ih =>
      intro l hl
      obtain ⟨f, hf⟩ := ih (l + 1) (by omega)
      have hin : vp_in (nI l) 24 := vp_in_nI (by omega) (by decide)
      have hcl : (nI l).toNatClampNeg = l := nI_clamp (by omega)
      rw [incs_s] at hf
      have yes : inc R c l = true → vX9_streetsAt_33 (vX9_streetsAt_4 Q f) Q R (nI c) (nI l) (nI (incs R c l).length) := by
        intro h y ey z ez
        rw [if_pos h, List.length_append] at hf
        rw [ez, ey, nI_1, nI_1]
        exact hf
      have no : inc R c l = false → vX9_streetsAt_38 (vX9_streetsAt_4 Q f) Q R (nI c) (nI l) 0 (nI (incs R c l).length) := by
        intro h y ey z ez
        rw [h, if_neg (by decide), List.append_nil] at hf
        rw [ez, ey, nI_1, Int32.add_zero]
        exact hf
      refine ⟨f + 1, fun q => absurd q (by rw [hc]; exact nI_ge (by omega) (by omega)), fun _ => ⟨hin, ?_⟩⟩
      rw [hcl]
      exact ⟨fun q => yes (by unfold inc; rw [decide_eq_true q]; rfl), fun q => ⟨hin, fun q2 => no (by unfold inc; rw [decide_eq_false q, decide_eq_false q2]; rfl), fun q2 => yes (by unfold inc; rw [decide_eq_true q2, Bool.or_true])⟩⟩
  exact loop m 0 (by omega)
def pt (M : Sg) (c l s : Nat) : Sg := sA (sA M (30 + c) l (nI s)) 24 c (nI (l + 1))
theorem pt_I (M : Sg) (c l s k : Nat) : gI (pt M c l s) k = gI M k := rfl
theorem pt_24 (M : Sg) (c l s k : Nat) : gA (pt M c l s) 24 k = if k = c then nI (l + 1) else gA M 24 k := by
  show upd (gA (sA M (30 + c) l (nI s)) 24) c _ k = _
  rw [gA_sA, if_neg (by omega)]
  rfl
theorem pt_o (M : Sg) (c l s : Nat) {a : Nat} (h1 : a ≠ 24) (h2 : a ≠ 30 + c) : gA (pt M c l s) a = gA M a := by
  show gA (sA (sA M (30 + c) l (nI s)) 24 c (nI (l + 1))) a = _
  rw [gA_sA, if_neg h1, gA_sA, if_neg h2]
theorem pt_c (M : Sg) (c l s k : Nat) : gA (pt M c l s) (30 + c) k = if k = l then nI s else gA M (30 + c) k := by
  show gA (sA (sA M (30 + c) l (nI s)) 24 c (nI (l + 1))) (30 + c) k = _
  rw [gA_sA, if_neg (by omega), gA_sA, if_pos rfl]
  rfl
theorem z_roomAt {n : Nat} {M : Sg} {a : Int32} {Q : Sg → Int32 → Prop} {f : Nat → Nat} (hf : ∀ c, c < 12 → gA M 24 c = nI (f c) ∧ f c ≤ 4) (h0 : a < 0 ∨ 11 < a → Q M 0) (h1 : ∀ c, c < 12 → a = nI c → f c = 4 → Q M 0) (h2 : ∀ c, c < 12 → a = nI c → f c < 4 → Q M 1) : wX3_hasRoomAt n M a Q := by
  unfold wX3_hasRoomAt
  refine z_within (fun q => ⟨fun _ => h0 q, fun q => absurd rfl q⟩) (fun g1 g2 => ⟨fun q => absurd q (by decide), fun _ => ?_⟩)
  obtain ⟨c, -, c1, rfl⟩ := z_rng (l := 0) (h := 11) rfl rfl (by decide) (by decide) g1 g2
  rw [nI_clamp (by omega), (hf c (by omega)).1]
  have h4 := (hf c (by omega)).2
  refine ⟨vp_in_nI (by omega) (by decide), fun q => h1 c (by omega) rfl ?_, fun q => h2 c (by omega) rfl ?_⟩
  · rw [show (4 : Int32) = nI 4 from rfl, nI_leI (by decide) (by omega)] at q
    omega
  · rw [show (4 : Int32) = nI 4 from rfl, nI_leI (by decide) (by omega)] at q
    omega
theorem z_putAt {n c s : Nat} {M : Sg} {Q : Sg → Prop} {f : Nat → Nat} (hf : ∀ c, c < 12 → gA M 24 c = nI (f c) ∧ f c ≤ 4) (hc : c < 12) (h4 : f c < 4) (hq : Q (pt M c (f c) s)) : wX3_putAt n M (nI c) (nI s) Q := by
  unfold wX3_putAt
  have hin : vp_in (nI c) 12 := vp_in_nI hc (by decide)
  refine z_roomAt hf (fun q => absurd q (fun q => q.elim (nI_pos (by omega)) (fun q => ?_))) (fun c' h1 e h2 => ?_) (fun c' h1 e h2 => ⟨fun q => absurd q (by decide), fun _ => ?_⟩)
  · rw [show (11 : Int32) = nI 11 from rfl, nI_ltI (by decide) (by omega)] at q
    omega
  · rw [nI_eq (by omega) (by omega)] at e
    subst e
    omega
  · rw [nI_clamp (by omega), (hf c hc).1]
    refine ⟨hin, hin, ⟨vp_in_nI (by omega) (by decide), hc⟩, fun M3 e3 => ⟨hin, hin, fun M4 e4 => ?_⟩⟩
    rw [nI_clamp (by omega)] at e3
    subst e3 e4
    have : gA (sA M (30 + c) (f c) (nI s)) 24 c + 1 = nI (f c + 1) := by rw [gA_sA, if_neg (by omega), (hf c hc).1, nI_1]
    rw [this]
    exact hq
theorem z_getD {l : List Nat} {i m : Nat} : (l ++ [m]).getD i 0 = if i < l.length then l.getD i 0 else if i = l.length then m else 0 := by
  rw [List.getD_eq_getElem?_getD, List.getD_eq_getElem?_getD, List.getElem?_append]
  by_cases h : i < l.length
  · rw [if_pos h, if_pos h]
  · rw [if_neg h, if_neg h]
    by_cases e : i = l.length
    · subst e; rw [if_pos rfl, Nat.sub_self]; rfl
    · rw [if_neg e, List.getElem?_eq_none (by simp; omega)]; rfl
def stC (C : Sg) (m a b t v la lb : Nat) : Sg := sI (pt (pt (sA (sA (sA (sA C 19 m (nI a)) 20 m (nI b)) 21 m (nI t)) 22 m (nI v)) a la m) b lb m) 5 (nI (m + 1))
def stR (R : Sg) (m a b t v : Nat) : Sg := sI (sA (sA (sA (sA R 46 m (nI a)) 47 m (nI b)) 48 m (nI t)) 49 m (nI v)) 45 (nI (m + 1))
theorem Rel_street {i n m a b t v : Nat} {C R : Sg} (h : Rel i n C R) (hS : RelS m C R) (hm : m < 24) (ha : a < 12) (hb : b < 12) (hab : a ≠ b) (hla : (incs R a m).length < 4) (hlb : (incs R b m).length < 4) (t1 : 1 ≤ t) (t2 : t ≤ 30) (hv : v ≤ 255) : Rel i n (stC C m a b t v (incs R a m).length (incs R b m).length) (stR R m a b t v) := by
  obtain ⟨⟨w, x, h1, h2⟩, h3, h4, -, h6, h7, h8, h9⟩ := h
  obtain ⟨s1, s2, s3, s4, s5, s6, s7⟩ := hS
  generalize ela : (incs R a m).length = la at *
  generalize elb : (incs R b m).length = lb at *
  have o : ∀ k, k ≠ 24 → k < 30 → gA (stC C m a b t v la lb) k = gA (sA (sA (sA (sA C 19 m (nI a)) 20 m (nI b)) 21 m (nI t)) 22 m (nI v)) k := fun k q1 q2 => by
    show gA (pt (pt _ a la m) b lb m) k = _
    rw [pt_o _ _ _ _ q1 (by omega), pt_o _ _ _ _ q1 (by omega)]
  have o2 : ∀ k, 42 ≤ k → gA (stC C m a b t v la lb) k = gA C k := fun k q1 => by
    show gA (pt (pt _ a la m) b lb m) k = _
    rw [pt_o _ _ _ _ (by omega) (by omega), pt_o _ _ _ _ (by omega) (by omega)]
    rw [gA_sA, if_neg (by omega), gA_sA, if_neg (by omega), gA_sA, if_neg (by omega), gA_sA, if_neg (by omega)]
  have oo : ∀ k, k ≠ 24 → k < 30 → k ≠ 19 → k ≠ 20 → k ≠ 21 → k ≠ 22 → gA (stC C m a b t v la lb) k = gA C k := fun k q1 q2 q3 q4 q5 q6 => by
    rw [o k q1 q2, gA_sA, if_neg q6, gA_sA, if_neg q5, gA_sA, if_neg q4, gA_sA, if_neg q3]
  have ei : ∀ c k, k < m → inc (stR R m a b t v) c k = inc R c k := fun c k hk => by
    unfold inc
    rw [show gA (stR R m a b t v) 46 k = upd (gA R 46) m (nI a) k from rfl, show gA (stR R m a b t v) 47 k = upd (gA R 47) m (nI b) k from rfl, pk_un (by omega), pk_un (by omega)]
  have em : ∀ c, c < 12 → inc (stR R m a b t v) c m = (decide (c = a) || decide (c = b)) := fun c hc => by
    unfold inc
    rw [show gA (stR R m a b t v) 46 m = upd (gA R 46) m (nI a) m from rfl, show gA (stR R m a b t v) 47 m = upd (gA R 47) m (nI b) m from rfl, pk_us, pk_us]
    congr 1
    · exact decide_eq_decide.mpr ⟨fun q => ((nI_eq (by omega) (by omega)).mp q).symm, fun q => by rw [q]⟩
    · exact decide_eq_decide.mpr ⟨fun q => ((nI_eq (by omega) (by omega)).mp q).symm, fun q => by rw [q]⟩
  refine ⟨⟨w, x, RelB_R (RelB_C h1 rfl rfl rfl (oo 0 (by decide) (by decide) (by decide) (by decide) (by decide) (by decide)) (oo 1 (by decide) (by decide) (by decide) (by decide) (by decide) (by decide))) rfl rfl rfl rfl rfl, RelL_R (RelL_C h2 (o2 50 (by decide)) (o2 51 (by decide)) (o2 52 (by decide)) (o2 53 (by decide)) (o2 54 (by decide)) (o2 55 (by decide)) (o2 56 (by decide)) (o2 57 (by decide)) (o2 58 (by decide)) (o2 59 (by decide)) (o2 60 (by decide)) (o2 61 (by decide))) rfl rfl rfl rfl rfl rfl rfl rfl rfl rfl rfl⟩, RelK_R (RelK_C h3 (oo 2 (by decide) (by decide) (by decide) (by decide) (by decide) (by decide))) rfl rfl, RelP_R (RelP_C h4 rfl rfl (oo 3 (by decide) (by decide) (by decide) (by decide) (by decide) (by decide)) (oo 4 (by decide) (by decide) (by decide) (by decide) (by decide) (by decide))) rfl rfl rfl, ⟨m + 1, by omega, rfl, rfl, fun k hk => ?_, fun k hk => ?_, s6, fun c hc => ?_⟩, RelD_R (RelD_C h6 rfl (oo 26 (by decide) (by decide) (by decide) (by decide) (by decide) (by decide))) rfl rfl, RelF_R (RelF_C h7 rfl (oo 8 (by decide) (by decide) (by decide) (by decide) (by decide) (by decide))) rfl rfl, RelX_R (RelX_C h8 rfl (oo 9 (by decide) (by decide) (by decide) (by decide) (by decide) (by decide)) (oo 10 (by decide) (by decide) (by decide) (by decide) (by decide) (by decide)) (oo 11 (by decide) (by decide) (by decide) (by decide) (by decide) (by decide))) rfl rfl rfl rfl rfl rfl, h9⟩
  · rw [o 19 (by decide) (by decide), o 20 (by decide) (by decide), o 21 (by decide) (by decide), o 22 (by decide) (by decide)]
    show upd (gA C 19) m _ k = upd (gA R 46) m _ k ∧ upd (gA C 20) m _ k = upd (gA R 47) m _ k ∧ upd (gA C 21) m _ k = upd (gA R 48) m _ k ∧ upd (gA C 22) m _ k = upd (gA R 49) m _ k ∧ (∃ a b, a ≤ 11 ∧ b ≤ 11 ∧ a ≠ b ∧ upd (gA R 46) m _ k = nI a ∧ upd (gA R 47) m _ k = nI b) ∧ (∃ t, t ≤ 30 ∧ 1 ≤ t ∧ upd (gA R 48) m _ k = nI t) ∧ ∃ t, t ≤ 255 ∧ upd (gA R 49) m _ k = nI t
    by_cases z : k = m
    · subst z
      rw [pk_us, pk_us, pk_us, pk_us, pk_us, pk_us, pk_us, pk_us]
      exact ⟨rfl, rfl, rfl, rfl, ⟨a, b, by omega, by omega, hab, rfl, rfl⟩, ⟨t, t2, t1, rfl⟩, ⟨v, hv, rfl⟩⟩
    · rw [pk_un z, pk_un z, pk_un z, pk_un z, pk_un z, pk_un z, pk_un z, pk_un z]
      exact s4 k (by omega)
  · rw [oo 23 (by decide) (by decide) (by decide) (by decide) (by decide) (by decide)]
    exact s5 k hk
  · obtain ⟨q1, q2, q3⟩ := s7 c hc
    rw [incs_s, incs_cong m (ei c), em c hc]
    have e24 : gA (stC C m a b t v la lb) 24 c = if c = b then nI (lb + 1) else if c = a then nI (la + 1) else gA C 24 c := by
      show gA (pt (pt _ a la m) b lb m) 24 c = _
      rw [pt_24, pt_24]
      rfl
    have e30 : ∀ i, gA (stC C m a b t v la lb) (30 + c) i = if c = b then (if i = lb then nI m else gA C (30 + c) i) else if c = a then (if i = la then nI m else gA C (30 + c) i) else gA C (30 + c) i := fun i => by
      have base : ∀ d, gA (sA (sA (sA (sA C 19 m (nI a)) 20 m (nI b)) 21 m (nI t)) 22 m (nI v)) (30 + d) = gA C (30 + d) := fun d => by
        rw [gA_sA, if_neg (by omega), gA_sA, if_neg (by omega), gA_sA, if_neg (by omega), gA_sA, if_neg (by omega)]
      show gA (pt (pt _ a la m) b lb m) (30 + c) i = _
      by_cases zb : c = b
      · subst zb
        rw [if_pos rfl, pt_c, pt_o _ _ _ _ (by omega) (by omega), base]
      · rw [if_neg zb, pt_o _ _ _ _ (by omega) (by omega)]
        by_cases za : c = a
        · subst za
          rw [if_pos rfl, pt_c, base]
        · rw [if_neg za, pt_o _ _ _ _ (by omega) (by omega), base]
    by_cases zb : c = b
    · subst zb
      rw [decide_eq_true rfl, Bool.or_true, if_pos rfl, e24, if_pos rfl, List.length_append, elb]
      refine ⟨by show lb + 1 ≤ 4; omega, rfl, fun i hi => ?_⟩
      have hi : i < lb + 1 := hi
      rw [e30, if_pos rfl, z_getD, elb]
      by_cases y : i = lb
      · rw [if_pos y, if_neg (by omega), if_pos y]
      · rw [if_neg y, if_pos (by omega)]
        exact q3 i (by omega)
    · by_cases za : c = a
      · subst za
        rw [decide_eq_true rfl, Bool.true_or, if_pos rfl, e24, if_neg zb, if_pos rfl, List.length_append, ela]
        refine ⟨by show la + 1 ≤ 4; omega, rfl, fun i hi => ?_⟩
        have hi : i < la + 1 := hi
        rw [e30, if_neg zb, if_pos rfl, z_getD, ela]
        by_cases y : i = la
        · rw [if_pos y, if_neg (by omega), if_pos y]
        · rw [if_neg y, if_pos (by omega)]
          exact q3 i (by omega)
      · rw [decide_eq_false za, decide_eq_false zb, e24, if_neg zb, if_neg za, if_neg (by decide), List.append_nil]
        refine ⟨q1, q2, fun i hi => ?_⟩
        rw [e30, if_neg zb, if_neg za]
        exact q3 i hi
theorem op_street {i n : Nat} {C R : Sg} {a b c d : Int32} (h : Rel i n C R) : wX8_street n C a b c d (fun C' r => wX9_street R a b c d (Nx i n C' r)) := by
  have h0 := Rel_thr (v := 0) h
  obtain ⟨m, hS⟩ := h0.2.2.2.1
  obtain ⟨s1, s2, s3, s4, s5, s6, s7⟩ := id hS
  have hf : ∀ c, c < 12 → gA C 24 c = nI (incs (sI R 0 0) c m).length ∧ (incs (sI R 0 0) c m).length ≤ 4 := fun c hc => ⟨(s7 c hc).2.1, (s7 c hc).1⟩
  have e24 : (24 : Int32) = nI 24 := rfl
  have e4 : (4 : Int32) = nI 4 := rfl
  have no : ∀ (C' : Sg) (r : Int32), C' = C → r = -1 → (a < 0 ∨ 11 < a ∨ b < 0 ∨ 11 < b ∨ a = b ∨ c < 1 ∨ 30 < c ∨ d < 0 ∨ 255 < d ∨ m = 24 ∨ (∃ k, k < 12 ∧ a = nI k ∧ (incs (sI R 0 0) k m).length = 4) ∨ (∃ k, k < 12 ∧ b = nI k ∧ (incs (sI R 0 0) k m).length = 4)) → wX9_street R a b c d (Nx i n C' r) := by
    intro C' r eC er hc M1 e1
    subst e1 eC er
    rw [s3, e24, nI_eq (a := m) (b := 24) (by omega) (by decide)]
    refine ⟨fun _ => Nx_same h0, fun c1 => ⟨fun _ => Nx_same h0, fun c2 => ⟨fun _ => Nx_same h0, fun c3 => ⟨fun _ => Nx_same h0, fun c4 => ⟨fun _ => Nx_same h0, fun c5 => ⟨fun _ => Nx_same h0, fun c6 => ⟨fun _ => Nx_same h0, fun c7 => ⟨fun _ => Nx_same h0, fun c8 => ⟨fun _ => Nx_same h0, fun c9 => ⟨fun _ => Nx_same h0, fun c10 => ?_⟩⟩⟩⟩⟩⟩⟩⟩⟩⟩
    obtain ⟨ka, -, ka1, rfl⟩ := z_rng (a := a) (l := 0) (h := 11) rfl rfl (by decide) (by decide) (Int32.not_lt.mp c1) (Int32.not_lt.mp c2)
    obtain ⟨kb, -, kb1, rfl⟩ := z_rng (a := b) (l := 0) (h := 11) rfl rfl (by decide) (by decide) (Int32.not_lt.mp c3) (Int32.not_lt.mp c4)
    have la := (hf ka (by omega)).2
    have lb := (hf kb (by omega)).2
    refine z_streetsAt hS ⟨fun _ => Nx_same h0, fun c11 => z_streetsAt hS ⟨fun c12 => ?_, fun _ => Nx_same h0⟩⟩
    rw [e4, nI_eq (by omega) (by decide)] at c11 c12
    rcases hc with q | q | q | q | q | q | q | q | q | q | ⟨k, k1, k2, k3⟩ | ⟨k, k1, k2, k3⟩
    · exact absurd q c1
    · exact absurd q c2
    · exact absurd q c3
    · exact absurd q c4
    · exact absurd q c5
    · exact absurd q c6
    · exact absurd q c7
    · exact absurd q c8
    · exact absurd q c9
    · exact absurd q c10
    · rw [nI_eq (by omega) (by omega)] at k2
      subst k2
      exact absurd k3 c11
    · rw [nI_eq (by omega) (by omega)] at k2
      subst k2
      exact absurd k3 c12
  unfold wX8_street wX3_add
  refine z_roomAt hf (fun q => ⟨fun _ => no _ _ rfl rfl (q.elim Or.inl (fun q => Or.inr (Or.inl q))), fun q => absurd rfl q⟩) (fun k k1 k2 k3 => ⟨fun _ => no _ _ rfl rfl (Or.inr (Or.inr (Or.inr (Or.inr (Or.inr (Or.inr (Or.inr (Or.inr (Or.inr (Or.inr (Or.inl ⟨k, k1, k2, k3⟩))))))))))), fun q => absurd rfl q⟩) (fun ka ka1 ka2 ka3 => ⟨fun q => absurd q (by decide), fun _ => ?_⟩)
  refine z_roomAt hf (fun q => ⟨fun _ => no _ _ rfl rfl (q.elim (fun q => Or.inr (Or.inr (Or.inl q))) (fun q => Or.inr (Or.inr (Or.inr (Or.inl q))))), fun q => absurd rfl q⟩) (fun k k1 k2 k3 => ⟨fun _ => no _ _ rfl rfl (Or.inr (Or.inr (Or.inr (Or.inr (Or.inr (Or.inr (Or.inr (Or.inr (Or.inr (Or.inr (Or.inr ⟨k, k1, k2, k3⟩))))))))))), fun q => absurd rfl q⟩) (fun kb kb1 kb2 kb3 => ⟨fun q => absurd q (by decide), fun _ => ?_⟩)
  refine ⟨fun q => no _ _ rfl rfl (Or.inr (Or.inr (Or.inr (Or.inr (Or.inl q))))), fun cab => ?_⟩
  rw [s2, e24, nI_ltI (by omega) (by decide)]
  refine ⟨fun cm => ?_, fun q => no _ _ rfl rfl (Or.inr (Or.inr (Or.inr (Or.inr (Or.inr (Or.inr (Or.inr (Or.inr (Or.inr (Or.inl (by omega)))))))))))⟩
  refine z_within (fun q => ⟨fun _ => no _ _ rfl rfl (Or.inr (Or.inr (Or.inr (Or.inr (Or.inr (q.elim Or.inl (fun q => Or.inr (Or.inl q)))))))), fun q => absurd rfl q⟩) (fun g1 g2 => ⟨fun q => absurd q (by decide), fun _ => ?_⟩)
  refine z_within (fun q => ⟨fun q => absurd rfl q, fun _ => no _ _ rfl rfl (Or.inr (Or.inr (Or.inr (Or.inr (Or.inr (Or.inr (Or.inr (q.elim Or.inl (fun q => Or.inr (Or.inl q)))))))))) ⟩) (fun g3 g4 => ⟨fun _ => ?_, fun q => absurd q (by decide)⟩)
  obtain ⟨t, t1, t2, rfl⟩ := z_rng (l := 1) (h := 30) rfl rfl (by decide) (by decide) g1 g2
  obtain ⟨v, -, v2, rfl⟩ := z_rng (l := 0) (h := 255) rfl rfl (by decide) (by decide) g3 g4
  subst ka2 kb2
  have hab : ka ≠ kb := fun q => cab (by rw [q])
  have hin : ∀ M : Sg, gI M 5 = nI m → vp_in (gI M 5) 24 := fun M q => by rw [q]; exact vp_in_nI cm (by decide)
  have hcl : (gI C 5).toNatClampNeg = m := by rw [s2]; exact nI_clamp (by omega)
  refine ⟨hin _ s2, fun M9 e9 => ?_⟩
  subst e9
  refine ⟨hin _ s2, fun M10 e10 => ?_⟩
  subst e10
  refine ⟨hin _ s2, fun M11 e11 => ?_⟩
  subst e11
  refine ⟨hin _ s2, fun M12 e12 => ?_⟩
  have e12 : M12 = sA (sA (sA (sA C 19 m (nI ka)) 20 m (nI kb)) 21 m (nI t)) 22 m (nI v) := by
    rw [e12]
    show sA (sA (sA (sA C 19 (gI C 5).toNatClampNeg (nI ka)) 20 (gI C 5).toNatClampNeg (nI kb)) 21 (gI C 5).toNatClampNeg (nI t)) 22 (gI C 5).toNatClampNeg (nI v) = _
    rw [hcl]
  have e5 : gI M12 5 = nI m := by rw [e12]; exact s2
  have f24 : ∀ c, c < 12 → gA M12 24 c = nI (incs (sI R 0 0) c m).length ∧ (incs (sI R 0 0) c m).length ≤ 4 := by rw [e12]; exact hf
  rw [e5]
  refine z_putAt (f := fun c => (incs (sI R 0 0) c m).length) f24 ka1 ka3 ?_
  rw [pt_I, e5]
  refine z_putAt (f := fun c => if c = ka then (incs (sI R 0 0) ka m).length + 1 else (incs (sI R 0 0) c m).length) (fun c hc => ?_) kb1 (by show (if kb = ka then _ else _) < 4; rw [if_neg (fun q => hab q.symm)]; exact kb3) ?_
  · rw [pt_24]
    by_cases z : c = ka
    · rw [if_pos z, if_pos z]; exact ⟨rfl, by omega⟩
    · rw [if_neg z, if_neg z]; exact f24 c hc
  · rw [if_neg (fun q => hab q.symm)]
    intro M17 e17
    rw [pt_I, pt_I, e5, nI_1] at e17
    have hr := Rel_street h0 hS cm ka1 kb1 hab ka3 kb3 t1 t2 v2
    intro M1 e1
    subst e1
    rw [s3, e24, nI_eq (a := m) (b := 24) (by omega) (by decide)]
    refine ⟨fun q => absurd q (nI_pos (by omega)), fun _ => ⟨fun q => ?_, fun _ => ⟨fun q => absurd q (nI_pos (by omega)), fun _ => ⟨fun q => ?_, fun _ => ⟨fun q => absurd q cab, fun _ => ⟨fun q => absurd q (Int32.not_lt.mpr g1), fun _ => ⟨fun q => absurd q (Int32.not_lt.mpr g2), fun _ => ⟨fun q => absurd q (Int32.not_lt.mpr g3), fun _ => ⟨fun q => absurd q (Int32.not_lt.mpr g4), fun _ => ⟨fun q => by omega, fun _ => ?_⟩⟩⟩⟩⟩⟩⟩⟩⟩⟩
    · rw [show (11 : Int32) = nI 11 from rfl, nI_ltI (by decide) (by omega)] at q
      omega
    · rw [show (11 : Int32) = nI 11 from rfl, nI_ltI (by decide) (by omega)] at q
      omega
    refine z_streetsAt hS ⟨fun q => ?_, fun _ => z_streetsAt hS ⟨fun _ => ?_, fun q => ?_⟩⟩
    · rw [e4, nI_eq (by omega) (by decide)] at q
      omega
    · have hin2 : ∀ M : Sg, gI M 45 = nI m → vp_in (gI M 45) 24 := fun M q => by rw [q]; exact vp_in_nI cm (by decide)
      have hcl2 : (gI (sI R 0 0) 45).toNatClampNeg = m := by rw [s3]; exact nI_clamp (by omega)
      refine ⟨hin2 _ s3, fun M6 e6 => ?_⟩
      subst e6
      refine ⟨hin2 _ s3, fun M7 e7 => ?_⟩
      subst e7
      refine ⟨hin2 _ s3, fun M8 e8 => ?_⟩
      subst e8
      refine ⟨hin2 _ s3, fun M9 e9 M10 e10 => ?_⟩
      have e10 : M10 = stR (sI R 0 0) m ka kb t v := by
        rw [e10, e9]
        show sI (sA (sA (sA (sA (sI R 0 0) 46 (gI (sI R 0 0) 45).toNatClampNeg _) 47 (gI (sI R 0 0) 45).toNatClampNeg _) 48 (gI (sI R 0 0) 45).toNatClampNeg _) 49 (gI (sI R 0 0) 45).toNatClampNeg _) 45 (gI (sI R 0 0) 45 + 1) = _
        rw [hcl2, s3, nI_1]
        rfl
      have e17' : M17 = stC C m ka kb t v (incs (sI R 0 0) ka m).length (incs (sI R 0 0) kb m).length := by
        rw [e17, e12]
        rfl
      refine ⟨?_, ?_⟩
      · rw [e10, e17']; rfl
      · rw [e10, e17']; exact Rel_mono hr (Nat.le_succ i)
    · rw [e4, nI_eq (by omega) (by decide)] at q
      omega
