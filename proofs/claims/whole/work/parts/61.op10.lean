/-! the rank of a learner -/
def stv (c : Int32) (F : Nat → Int32) : Int32 := if (9999 : Int32) < c then F (c - 10000).toNatClampNeg else c
def jn (c a b : Int32) : Int32 := if c = 10006 then a + b else if c = 10007 then a - b else if c = 10008 then (if b ≤ a then 0 else 1) else if c = 10009 then (if a = b then 1 else 0) else (if a = 0 then 0 else if b = 0 then 0 else 1)
def stp (c : Int32) (F : Nat → Int32) (s : List Int32) : List Int32 := if c ≤ nI 10005 then stv c F :: s else match s with
  | b :: a :: r => jn c a b :: r
  | s => s
def ev (K F : Nat → Int32) : Nat → Nat → List Int32 → List Int32
  | 0, _, s => s
  | d + 1, k, s => ev K F d (k + 1) (stp (K k) F s)
def pile (g : Nat → Int32) : List Int32 → Prop
  | [] => True
  | v :: s => g s.length = v ∧ pile g s
theorem pile_upd {g : Nat → Int32} {k : Nat} {v : Int32} : ∀ {s : List Int32}, pile g s → s.length ≤ k → pile (upd g k v) s := by
  intro s
  induction s with
  | nil => intro _ _; trivial
  | cons a s ih =>
    intro h hk
    have hk' : s.length + 1 ≤ k := hk
    exact ⟨by rw [pk_un (by omega)]; exact h.1, ih h.2 (by omega)⟩
theorem pile_push {g : Nat → Int32} {v : Int32} {s : List Int32} (h : pile g s) : pile (upd g s.length v) (v :: s) := ⟨pk_us, pile_upd h (Nat.le_refl _)⟩
def okc (c : Int32) : Prop := (∃ t, t ≤ 9999 ∧ c = nI t) ∨ (∃ f, f < 6 ∧ c = nI (10000 + f)) ∨ (∃ f, f < 5 ∧ c = nI (10006 + f))
theorem codeR_ok {c o v : Int32} (h : codeR c o v) : okc c := by
  rcases h with ⟨t, t1, t2, -⟩ | ⟨f, f1, f2, -⟩ | ⟨h, -⟩ | ⟨h, -⟩ | ⟨h, -⟩ | ⟨h, -⟩ | ⟨h, -⟩
  · exact Or.inl ⟨t, t1, t2⟩
  · exact Or.inr (Or.inl ⟨f, f1, f2⟩)
  · exact Or.inr (Or.inr ⟨0, by omega, h⟩)
  · exact Or.inr (Or.inr ⟨1, by omega, h⟩)
  · exact Or.inr (Or.inr ⟨2, by omega, h⟩)
  · exact Or.inr (Or.inr ⟨3, by omega, h⟩)
  · exact Or.inr (Or.inr ⟨4, by omega, h⟩)
theorem z_10k (f : Nat) : nI (10000 + f) - (10000 : Int32) = nI f := by
  rw [show (10000 : Int32) = nI 10000 from rfl, pk_sub (Nat.le_add_right _ _), Nat.add_sub_cancel_left]
theorem stv_n {t : Nat} {F : Nat → Int32} (h : t ≤ 9999) : stv (nI t) F = nI t := by
  unfold stv
  rw [if_neg]
  rw [show (9999 : Int32) = nI 9999 from rfl, nI_ltI (by decide) (by omega)]
  omega
theorem stv_f {f : Nat} {F : Nat → Int32} (h : f < 6) : stv (nI (10000 + f)) F = F f := by
  unfold stv
  rw [if_pos, z_10k, nI_clamp (by omega)]
  rw [show (9999 : Int32) = nI 9999 from rfl, nI_ltI (by decide) (by omega)]
  omega
theorem z_joined {n : Nat} {M : Sg} {c a b : Int32} {Q : Sg → Int32 → Prop} (h : Q M (jn c a b)) : wX5_joined n M c a b Q := by
  unfold jn at h
  have d : ∀ {x y : Int32}, c = x → x ≠ y → ¬ c = y := fun e q z => q (e.symm.trans z)
  refine ⟨fun e => ?_, fun e => ?_, fun e => ?_, fun e => ?_, fun ⟨e1, e2, e3, e4⟩ => ?_⟩
  · rw [if_pos e] at h; exact h
  · rw [if_neg (d e (by decide)), if_pos e] at h; exact h
  · rw [if_neg (d e (by decide)), if_neg (d e (by decide)), if_pos e] at h
    exact ⟨fun q => by rw [if_pos q] at h; exact h, fun q => by rw [if_neg q] at h; exact h⟩
  · rw [if_neg (d e (by decide)), if_neg (d e (by decide)), if_neg (d e (by decide)), if_pos e] at h
    exact ⟨fun q => by rw [if_neg q] at h; exact h, fun q => by rw [if_pos q] at h; exact h⟩
  · rw [if_neg e1, if_neg e2, if_neg e3, if_neg e4] at h
    exact ⟨fun q => by rw [if_pos q] at h; exact h, fun q => by rw [if_neg q] at h; exact ⟨fun r => by rw [if_pos r] at h; exact h, fun r => by rw [if_neg r] at h; exact h⟩⟩
theorem z_valueOf {n : Nat} {K F : Nat → Int32} {Q : Sg → Int32 → Prop} : ∀ (d k h : Nat) (s : List Int32) (M : Sg), k + d ≤ 600 → h ≤ 16 → (∀ j, k ≤ j → j < k + d → okc (K j)) → hts K d k h 1 → s.length = h → pile (gA M 12) s → gA M 11 = K → gA M 7 = F → (∀ M' v, ag [] [12] M M' → ev K F d k s = [v] → Q M' v) → ∃ f, vX5_valueOf_6 n Q f M (nI (k + d)) (nI h) (nI k) := by
  intro d
  induction d with
  | zero =>
    intro k h s M hk h16 hc hh hs hp hK hF hq
    have hh : (1 : Nat) = h := hh
    subst hh
    obtain ⟨v, rfl⟩ : ∃ v, s = [v] := List.length_eq_one_iff.mp hs
    refine ⟨1, fun _ => ⟨vp_in_nI (n := 0) (by decide) (by decide), ?_⟩, fun q => absurd (Int32.le_refl _) q⟩
    rw [show ((0 : Int32).toNatClampNeg) = 0 from rfl, show gA M 12 0 = v from hp.1]
    exact hq M v ag_rf rfl
  | succ d ih =>
    intro k h s M hk h16 hc hh hs hp hK hF hq
    have hcl : (nI k).toNatClampNeg = k := nI_clamp (by omega)
    have hin : vp_in (nI k) 600 := vp_in_nI (by omega) (by decide)
    have e05 : (10005 : Int32) = nI 10005 := rfl
    have hcut : ¬ nI (k + (d + 1)) ≤ nI k := nI_ge (by omega) (by omega)
    have hh : if K k ≤ nI 10005 then h < 16 ∧ hts K d (k + 1) (h + 1) 1 else 2 ≤ h ∧ hts K d (k + 1) (h - 1) 1 := hh
    by_cases c : K k ≤ nI 10005
    · rw [if_pos c] at hh
      have hinh : vp_in (nI h) 16 := vp_in_nI hh.1 (by decide)
      have hclh : (nI h).toNatClampNeg = h := nI_clamp (by omega)
      obtain ⟨f, hf⟩ := ih (k + 1) (h + 1) (stv (K k) F :: s) (sA M 12 h (stv (K k) F)) (by omega) (by omega) (fun j h1 h2 => hc j (by omega) (by omega)) hh.2 (by rw [List.length_cons, hs]) (by show pile (upd (gA M 12) h _) _; rw [← hs]; exact pile_push hp) hK hF (fun M' v a e => hq M' v (ag_tr (ag_sA ag_rf (by decide)) a) (by show ev K F d (k + 1) (stp (K k) F s) = _; unfold stp; rw [if_pos c]; exact e))
      have go : ∀ u, u = stv (K k) F → vX5_valueOf_113 n (vX5_valueOf_6 n Q f) Q M (nI (k + (d + 1))) (nI h) (nI k) u (nI h) := by
        intro u eu
        subst eu
        refine ⟨hinh, fun M1 e1 y ey z ez => ?_⟩
        rw [hclh] at e1
        subst e1
        rw [ez, ey, nI_1, nI_1, show k + (d + 1) = k + 1 + d by omega]
        exact hf
      refine ⟨f + 1, fun q => absurd q hcut, fun _ => ⟨hin, fun y ey => ⟨fun _ => ⟨fun q => ?_, fun _ => ⟨fun q => ?_, fun _ => ⟨fun q => ?_, fun q => ?_⟩⟩⟩, fun q => ?_⟩⟩⟩
      · rw [hcl, hK] at ey
        subst ey
        exact absurd c (Int32.not_le.mpr q)
      · exact absurd q (nI_ge hh.1 (by decide))
      · rw [hcl, hK] at ey
        subst ey
        rcases hc k (Nat.le_refl k) (by omega) with ⟨t, t1, t2⟩ | ⟨g, g1, g2⟩ | ⟨g, g1, g2⟩
        · rw [t2, show (9999 : Int32) = nI 9999 from rfl, nI_ltI (by decide) (by omega)] at q
          omega
        · rw [g2, z_10k, nI_clamp (by omega)]
          exact ⟨vp_in_nI g1 (by decide), go _ (by rw [g2, stv_f g1, hF])⟩
        · rw [g2, nI_leI (by omega) (by decide)] at c
          omega
      · rw [hcl, hK] at ey
        subst ey
        exact go _ (by unfold stv; rw [if_neg q])
      · rw [hcl, hK] at ey
        subst ey
        exact absurd c q
    · rw [if_neg c] at hh
      obtain ⟨b, a, r, rfl⟩ : ∃ b a r, s = b :: a :: r := by
        match s, hs with
        | [], hs => simp at hs; omega
        | [x], hs => simp at hs; omega
        | b :: a :: r, _ => exact ⟨b, a, r, rfl⟩
      have hr : r.length + 2 = h := hs
      have hpb : gA M 12 (r.length + 1) = b := hp.1
      have hpa : gA M 12 r.length = a := hp.2.1
      have e1 : stp (K k) F (b :: a :: r) = jn (K k) a b :: r := by unfold stp; rw [if_neg c]
      obtain ⟨f, hf⟩ := ih (k + 1) (h - 1) (jn (K k) a b :: r) (sA M 12 r.length (jn (K k) a b)) (by omega) (by omega) (fun j h1 h2 => hc j (by omega) (by omega)) hh.2 (by rw [List.length_cons]; omega) (pile_push hp.2.2) hK hF (fun M' v a' e => hq M' v (ag_tr (ag_sA ag_rf (by decide)) a') (by show ev K F d (k + 1) (stp (K k) F (b :: a :: r)) = _; rw [e1]; exact e))
      refine ⟨f + 1, fun q => absurd q hcut, fun _ => ⟨hin, fun y ey => ⟨fun q => ?_, fun _ => ⟨fun q => ?_, fun _ z ez => ?_⟩⟩⟩⟩
      · rw [hcl, hK] at ey
        subst ey
        exact absurd q c
      · rw [show (2 : Int32) = nI 2 from rfl, nI_ltI (by omega) (by decide)] at q
        omega
      · rw [hcl, hK] at ey
        subst ey
        rw [show h = r.length + 1 + 1 by omega, pk_m1] at ez
        subst ez
        rw [nI_pred, nI_clamp (by omega), nI_clamp (by omega), hpa, hpb]
        have hin1 : vp_in (nI r.length) 16 := vp_in_nI (by omega) (by decide)
        have hin2 : vp_in (nI (r.length + 1)) 16 := vp_in_nI (by omega) (by decide)
        refine ⟨hin1, hin2, z_joined ⟨hin1, fun M5 e5 w ew => ?_⟩⟩
        subst e5
        rw [ew, nI_1, show k + (d + 1) = k + 1 + d by omega, show r.length + 1 = h - 1 by omega]
        exact hf
theorem jn_p (a b : Int32) : jn (nI 10006) a b = a + b := if_pos rfl
theorem jn_m (a b : Int32) : jn (nI 10007) a b = a - b := by unfold jn; rw [if_neg (by decide), if_pos (show nI 10007 = (10007 : Int32) from rfl)]
theorem jn_l (a b : Int32) : jn (nI 10008) a b = if b ≤ a then 0 else 1 := by unfold jn; rw [if_neg (by decide), if_neg (by decide), if_pos (show nI 10008 = (10008 : Int32) from rfl)]
theorem jn_e (a b : Int32) : jn (nI 10009) a b = if a = b then 1 else 0 := by unfold jn; rw [if_neg (by decide), if_neg (by decide), if_neg (by decide), if_pos (show nI 10009 = (10009 : Int32) from rfl)]
theorem jn_a (a b : Int32) : jn (nI 10010) a b = if a = 0 then 0 else if b = 0 then 0 else 1 := by unfold jn; rw [if_neg (by decide), if_neg (by decide), if_neg (by decide), if_neg (by decide)]
theorem z_worth {K F : Nat → Int32} {b : Nat} {Q : Sg → Int32 → Prop} : ∀ (d k h : Nat) (s : List Int32) (M : Sg), b + k + d < 1320 → h ≤ 16 → (∀ j, k ≤ j → j < k + d → codeR (K j) (gA M 13 (b + j)) (gA M 14 (b + j))) → gA M 13 (b + k + d) = 0 → hts K d k h 1 → s.length = h → pile (gA M 23) s → gA M 22 = F → (∀ M' v, ag [] [23] M M' → ev K F d k s = [v] → Q M' v) → ∃ f, vX9_worth_4 Q f M (nI (b + k)) (nI h) := by
  intro d
  induction d with
  | zero =>
    intro k h s M hk h16 hc h0 hh hs hp hF hq
    have hh : (1 : Nat) = h := hh
    subst hh
    obtain ⟨v, rfl⟩ : ∃ v, s = [v] := List.length_eq_one_iff.mp hs
    have hcl : (nI (b + k)).toNatClampNeg = b + k := nI_clamp (by omega)
    have hin : vp_in (nI (b + k)) 1320 := vp_in_nI (by omega) (by decide)
    refine ⟨1, hin, fun _ => ⟨vp_in_nI (n := 0) (by decide) (by decide), ?_⟩, fun q => absurd (by rw [hcl]; exact h0) q⟩
    rw [show ((0 : Int32).toNatClampNeg) = 0 from rfl, show gA M 23 0 = v from hp.1]
    exact hq M v ag_rf rfl
  | succ d ih =>
    intro k h s M hk h16 hc h0 hh hs hp hF hq
    have hcl : (nI (b + k)).toNatClampNeg = b + k := nI_clamp (by omega)
    have hin : vp_in (nI (b + k)) 1320 := vp_in_nI (by omega) (by decide)
    have hh : if K k ≤ nI 10005 then h < 16 ∧ hts K d (k + 1) (h + 1) 1 else 2 ≤ h ∧ hts K d (k + 1) (h - 1) 1 := hh
    have hck := hc k (Nat.le_refl k) (by omega)
    have push : K k ≤ nI 10005 → ∃ f, vX9_worth_64 (vX9_worth_4 Q f) Q M (nI (b + k)) (nI h) (stv (K k) F) (nI h) := by
      intro c
      rw [if_pos c] at hh
      have hinh : vp_in (nI h) 660 := vp_in_nI (by omega) (by decide)
      have hclh : (nI h).toNatClampNeg = h := nI_clamp (by omega)
      obtain ⟨f, hf⟩ := ih (k + 1) (h + 1) (stv (K k) F :: s) (sA M 23 h (stv (K k) F)) (by omega) (by omega) (fun j h1 h2 => hc j (by omega) (by omega)) (by rw [show b + (k + 1) + d = b + k + (d + 1) by omega]; exact h0) hh.2 (by rw [List.length_cons, hs]) (by show pile (upd (gA M 23) h _) _; rw [← hs]; exact pile_push hp) hF (fun M' v a e => hq M' v (ag_tr (ag_sA ag_rf (by decide)) a) (by show ev K F d (k + 1) (stp (K k) F s) = _; unfold stp; rw [if_pos c]; exact e))
      refine ⟨f, hinh, fun M1 e1 y ey z ez => ?_⟩
      rw [hclh] at e1
      subst e1
      rw [ez, ey, nI_1, nI_1]
      exact hf
    have join : ¬ K k ≤ nI 10005 → ∃ f bb aa rr, s = bb :: aa :: rr ∧ rr.length + 2 = h ∧ ∀ u, u = jn (K k) aa bb → vX9_worth_185 (vX9_worth_4 Q f) Q M (nI (b + k)) (nI (rr.length + 1)) u (nI rr.length) := by
      intro c
      rw [if_neg c] at hh
      obtain ⟨bb, aa, r, rfl⟩ : ∃ b a r, s = b :: a :: r := by
        match s, hs with
        | [], hs => simp at hs; omega
        | [x], hs => simp at hs; omega
        | b :: a :: r, _ => exact ⟨b, a, r, rfl⟩
      have hr : r.length + 2 = h := hs
      have e1 : stp (K k) F (bb :: aa :: r) = jn (K k) aa bb :: r := by unfold stp; rw [if_neg c]
      obtain ⟨f, hf⟩ := ih (k + 1) (h - 1) (jn (K k) aa bb :: r) (sA M 23 r.length (jn (K k) aa bb)) (by omega) (by omega) (fun j h1 h2 => hc j (by omega) (by omega)) (by rw [show b + (k + 1) + d = b + k + (d + 1) by omega]; exact h0) hh.2 (by rw [List.length_cons]; omega) (pile_push hp.2.2) hF (fun M' v a' e => hq M' v (ag_tr (ag_sA ag_rf (by decide)) a') (by show ev K F d (k + 1) (stp (K k) F (bb :: aa :: r)) = _; rw [e1]; exact e))
      refine ⟨f, bb, aa, r, rfl, hr, fun u eu => ?_⟩
      subst eu
      refine ⟨vp_in_nI (by omega) (by decide), fun M1 e1 y ey => ?_⟩
      rw [nI_clamp (by omega)] at e1
      subst e1
      rw [ey, nI_1, show r.length + 1 = h - 1 by omega]
      exact hf
    have notop : ∀ {g : Nat}, 10006 ≤ g → g ≤ 10010 → K k = nI g → ¬ K k ≤ nI 10005 := fun h1 h2 e q => by
      rw [e, nI_leI (by omega) (by decide)] at q
      omega
    have isop : ∀ {g : Nat}, g ≤ 10005 → K k = nI g → K k ≤ nI 10005 := fun h1 e => by
      rw [e, nI_leI (by omega) (by decide)]
      exact h1
    rcases hck with ⟨t, t1, t2, t3, t4⟩ | ⟨g, g1, g2, g3, g4⟩ | ⟨c2, c3⟩ | ⟨c2, c3⟩ | ⟨c2, c3⟩ | ⟨c2, c3⟩ | ⟨c2, c3⟩
    · obtain ⟨f, hf⟩ := push (isop (by omega) t2)
      rw [t2, stv_n t1] at hf
      refine ⟨f + 1, hin, fun q => ?_, fun _ => ⟨hin, fun y ey => ?_⟩⟩
      · rw [hcl, t3] at q; exact absurd q (by decide)
      · rw [hcl, t3] at ey
        subst ey
        refine ⟨fun _ => ⟨fun q => absurd rfl q, fun _ => ⟨hin, ?_⟩⟩, fun q => absurd rfl q⟩
        rw [hcl, t4]
        exact hf
    · obtain ⟨f, hf⟩ := push (isop (by omega) g2)
      rw [g2, stv_f g1] at hf
      refine ⟨f + 1, hin, fun q => ?_, fun _ => ⟨hin, fun y ey => ?_⟩⟩
      · rw [hcl, g3] at q; exact absurd q (by decide)
      · rw [hcl, g3] at ey
        subst ey
        refine ⟨fun q => absurd q (by decide), fun _ => ⟨fun q => absurd rfl q, fun _ => ⟨fun _ => ⟨hin, ?_⟩, fun q => absurd q (by decide)⟩⟩⟩
        rw [hcl, g4, nI_clamp (by omega), hF]
        exact ⟨vp_in_nI g1 (by decide), hf⟩
    all_goals
      obtain ⟨f, bb, aa, r, es, hr, hf⟩ := join (notop (by decide) (by decide) c2)
      subst es
      have hpb : gA M 23 (r.length + 1) = bb := hp.1
      have hpa : gA M 23 r.length = aa := hp.2.1
      have eh : nI h + (-1 : Int32) = nI (r.length + 1) := by rw [← hr, show r.length + 2 = r.length + 1 + 1 from rfl, pk_m1]
      refine ⟨f + 1, hin, fun q => ?_, fun _ => ⟨hin, fun y ey => ?_⟩⟩
      · rw [hcl, c3] at q; exact absurd q (by decide)
      · rw [hcl, c3] at ey
        subst ey
        refine ⟨fun q => absurd q (by decide), fun _ => ⟨fun _ z ez => ?_, fun q => absurd q (by decide)⟩⟩
        rw [eh] at ez
        subst ez
        refine ⟨vp_in_nI (by omega) (by decide), fun u eu => ?_⟩
        rw [nI_clamp (by omega), hpb] at eu
        subst eu
        rw [nI_pred]
        refine ⟨vp_in_nI (by omega) (by decide), fun u2 eu2 => ?_⟩
        rw [nI_clamp (by omega), hpa] at eu2
        subst eu2
        rw [c2] at hf
        first
        | exact ⟨fun q => absurd rfl q, fun _ => hf _ (jn_p _ _).symm⟩
        | exact ⟨fun _ => ⟨fun q => absurd rfl q, fun _ => hf _ (jn_m _ _).symm⟩, fun q => absurd q (by decide)⟩
        | exact ⟨fun _ => ⟨fun _ => ⟨fun q => absurd rfl q, fun _ => ⟨fun q => hf _ (by rw [jn_l, if_pos q]), fun q => hf _ (by rw [jn_l, if_neg q])⟩⟩, fun q => absurd q (by decide)⟩, fun q => absurd q (by decide)⟩
        | exact ⟨fun _ => ⟨fun _ => ⟨fun _ => ⟨fun q => absurd rfl q, fun _ => ⟨fun q => hf _ (by rw [jn_e, if_neg q]), fun q => hf _ (by rw [jn_e, if_pos q])⟩⟩, fun q => absurd q (by decide)⟩, fun q => absurd q (by decide)⟩, fun q => absurd q (by decide)⟩
        | exact ⟨fun _ => ⟨fun _ => ⟨fun _ => ⟨fun _ => ⟨fun q => hf _ (by rw [jn_a, if_pos q]), fun q => ⟨fun r => hf _ (by rw [jn_a, if_neg q, if_pos r]), fun r => hf _ (by rw [jn_a, if_neg q, if_neg r])⟩⟩, fun q => absurd q (by decide)⟩, fun q => absurd q (by decide)⟩, fun q => absurd q (by decide)⟩, fun q => absurd q (by decide)⟩
theorem stp_cong {c : Int32} {F G : Nat → Int32} {s : List Int32} (hc : okc c) (h : ∀ f, f < 6 → F f = G f) : stp c F s = stp c G s := by
  unfold stp
  rcases hc with ⟨t, t1, t2⟩ | ⟨g, g1, g2⟩ | ⟨g, g1, g2⟩
  · rw [t2, stv_n t1, stv_n t1]
  · rw [g2, stv_f g1, stv_f g1, h g g1]
  · have : ¬ c ≤ nI 10005 := by rw [g2, nI_leI (by omega) (by decide)]; omega
    rw [if_neg this, if_neg this]
theorem ev_cong {K F G : Nat → Int32} (h : ∀ f, f < 6 → F f = G f) : ∀ (d k : Nat) (s : List Int32), (∀ j, k ≤ j → j < k + d → okc (K j)) → ev K F d k s = ev K G d k s := by
  intro d
  induction d with
  | zero => intro k s _; rfl
  | succ d ih =>
    intro k s hc
    show ev K F d (k + 1) (stp (K k) F s) = ev K G d (k + 1) (stp (K k) G s)
    rw [stp_cong (hc k (Nat.le_refl k) (by omega)) h]
    exact ih (k + 1) _ (fun j h1 h2 => hc j (by omega) (by omega))
def frm (E : Nat → Int32) (i : Nat) : Nat := if i = 0 then 0 else (E (i - 1)).toNatClampNeg
def lval (E K G : Nat → Int32) (i : Nat) : Int32 := (ev K G ((E i).toNatClampNeg - frm E i) (frm E i) []).headD 0
def rkv (F E K G : Nat → Int32) : Nat → Nat → Int32
  | 0, _ => 0
  | d + 1, i => if lval E K G i = 0 then rkv F E K G d (i + 1) else F i
def fct (C : Sg) (j : Nat) : Nat → Int32 := fun k => if k = 0 then gA C 53 j else if k = 1 then gA C 52 j else if k = 2 then gI C 1 - gA C 51 j else if k = 3 then gA C 60 j else if k = 4 then gA C 55 j - gI C 1 else gI C 1
def rk (C : Sg) (j : Nat) : Int32 := rkv (gA C 9) (gA C 10) (gA C 11) (fct C j) (gI C 15).toNatClampNeg 0
theorem rk_ag {C C' : Sg} {I A : List Nat} (h : ag I A C C') (h1 : 1 ∉ I) (h15 : 15 ∉ I) (hA : ∀ a ∈ [9, 10, 11, 51, 52, 53, 55, 60], a ∉ A) (j : Nat) : rk C' j = rk C j := by
  unfold rk fct
  rw [h.1 1 h1, h.1 15 h15, h.2.1 9 (hA 9 (by decide)), h.2.1 10 (hA 10 (by decide)), h.2.1 11 (hA 11 (by decide)), h.2.1 51 (hA 51 (by decide)), h.2.1 52 (hA 52 (by decide)), h.2.1 53 (hA 53 (by decide)), h.2.1 55 (hA 55 (by decide)), h.2.1 60 (hA 60 (by decide))]
/-- the text in force, its parts named -/
def RelX1 (m hd : Nat) (st : Nat → Nat) (C R : Sg) : Prop :=
  m ≤ 16 ∧ hd ≤ 1 ∧ gI C 15 = nI m ∧ gI R 15 = nI hd ∧ gA R 10 hd = nI m ∧ st 0 = 0 ∧ st m ≤ 600 ∧
  ∀ i, i < m → st i ≤ st (i + 1) ∧ gA C 9 i = gA R 11 (16 * hd + i) ∧ (∃ t, t ≤ 99 ∧ gA R 11 (16 * hd + i) = nI t) ∧ gA C 10 i = nI (st (i + 1)) ∧ gA R 12 (16 * hd + i) = nI (660 * hd + st i + i) ∧
    (∀ k, st i ≤ k → k < st (i + 1) → codeR (gA C 11 k) (gA R 13 (660 * hd + k + i)) (gA R 14 (660 * hd + k + i))) ∧ gA R 13 (660 * hd + st (i + 1) + i) = 0 ∧ hts (gA C 11) (st (i + 1) - st i) (st i) 0 1
theorem RelX1_mono {m hd : Nat} {st : Nat → Nat} {C R : Sg} (h : RelX1 m hd st C R) : ∀ (k i : Nat), i + k ≤ m → st i ≤ st (i + k) := by
  intro k
  induction k with
  | zero => intro i _; exact Nat.le_refl _
  | succ k ih => intro i hi; exact Nat.le_trans (ih i (by omega)) (h.2.2.2.2.2.2.2 (i + k) (by omega)).1
theorem RelX1_le {m hd : Nat} {st : Nat → Nat} {C R : Sg} (h : RelX1 m hd st C R) {i : Nat} (hi : i ≤ m) : st i ≤ 600 := by
  have := RelX1_mono h (m - i) i (by omega)
  rw [show i + (m - i) = m by omega] at this
  exact Nat.le_trans this h.2.2.2.2.2.2.1
theorem RelX1_frm {m hd : Nat} {st : Nat → Nat} {C R : Sg} (h : RelX1 m hd st C R) {i : Nat} (hi : i ≤ m) : frm (gA C 10) i = st i := by
  unfold frm
  cases i with
  | zero => rw [if_pos rfl]; exact h.2.2.2.2.2.1.symm
  | succ i =>
    rw [if_neg (by omega), show i + 1 - 1 = i from rfl, (h.2.2.2.2.2.2.2 i (by omega)).2.2.2.1]
    exact nI_clamp (by have := RelX1_le h hi; omega)
theorem RelX1_lval {m hd : Nat} {st : Nat → Nat} {C R : Sg} (h : RelX1 m hd st C R) {i : Nat} (hi : i < m) (G : Nat → Int32) : lval (gA C 10) (gA C 11) G i = (ev (gA C 11) G (st (i + 1) - st i) (st i) []).headD 0 := by
  unfold lval
  rw [RelX1_frm h (by omega), (h.2.2.2.2.2.2.2 i hi).2.2.2.1, nI_clamp (by have := RelX1_le h (show i + 1 ≤ m by omega); omega)]
theorem z_rankBy {n m hd : Nat} {st : Nat → Nat} {C R M : Sg} {G : Nat → Int32} {Q : Sg → Int32 → Prop} (h : RelX1 m hd st C R) (a9 : gA M 9 = gA C 9) (a10 : gA M 10 = gA C 10) (a11 : gA M 11 = gA C 11) (i15 : gI M 15 = gI C 15) (hG : ∀ f, f < 6 → gA M 7 f = G f) (hq : ∀ M', ag [] [12] M M' → Q M' (rkv (gA C 9) (gA C 10) (gA C 11) G m 0)) : wX5_rankBy n M Q := by
  obtain ⟨x1, x2, x3, x4, x5, x6, x7, x8⟩ := id h
  have loop : ∀ (k i : Nat) (M' : Sg), i + k = m → ag [] [12] M M' → (∀ M', ag [] [12] M M' → Q M' (rkv (gA C 9) (gA C 10) (gA C 11) G k i)) → vX5_rankBy_4 n Q (k + 1) M' (nI (st i)) (nI i) := by
    intro k
    induction k with
    | zero =>
      intro i M' hi ha hq
      refine ⟨fun _ => hq M' ha, fun q => absurd ?_ q⟩
      rw [ha.1 15 (by simp), i15, x3]
      exact nI_le (by omega) (by omega)
    | succ k ih =>
      intro i M' hi ha hq
      obtain ⟨y1, y2, y3, y4, y5, y6, y7, y8⟩ := x8 i (by omega)
      have hin : vp_in (nI i) 16 := vp_in_nI (by omega) (by decide)
      have hcl : (nI i).toNatClampNeg = i := nI_clamp (by omega)
      have hb := RelX1_le h (show i + 1 ≤ m by omega)
      have e15 : gI M' 15 = nI m := by rw [ha.1 15 (by simp), i15, x3]
      have e10 : ∀ {M''}, ag [] [12] M M'' → gA M'' 10 i = nI (st (i + 1)) := fun a => by rw [a.2.1 10 (by decide), a10, y4]
      have hok : ∀ j, st i ≤ j → j < st i + (st (i + 1) - st i) → okc (gA C 11 j) := fun j h1 h2 => codeR_ok (y6 j h1 (by omega))
      refine ⟨fun q => absurd q (by rw [e15]; exact nI_ge (by omega) (by omega)), fun _ => ⟨hin, ?_⟩⟩
      rw [hcl, e10 ha]
      have := z_valueOf (n := n) (K := gA C 11) (F := gA M' 7) (Q := fun M_1 r_2 => ((r_2 = 0 → (vp_in (nI i) 16 ∧ (∀ (x_3 : Int32), x_3 = (gA M_1 10 i) → (∀ (x_4 : Int32), x_4 = nI i + (1 : Int32) → (vX5_rankBy_4 n Q (k + 1) M_1 x_3 x_4))))) ∧ (¬ r_2 = 0 → (vp_in (nI i) 16 ∧ (Q M_1 (gA M_1 9 i)))))) (st (i + 1) - st i) (st i) 0 [] M' (by omega) (by omega) hok y8 rfl trivial (by rw [ha.2.1 11 (by decide), a11]) rfl ?_
      · rw [show st i + (st (i + 1) - st i) = st (i + 1) by omega] at this
        exact this
      · intro M'' v a e
        have e : ev (gA C 11) G (st (i + 1) - st i) (st i) [] = [v] := by
          rw [← ev_cong (F := gA M' 7) (G := G) (fun f hf => by rw [ha.2.1 7 (by decide)]; exact hG f hf) _ _ _ hok]
          exact e
        have hl : lval (gA C 10) (gA C 11) G i = v := by rw [RelX1_lval h (by omega), e]; rfl
        have hA := ag_tr ha a
        refine ⟨fun q => ⟨hin, fun y ey z ez => ?_⟩, fun q => ⟨hin, ?_⟩⟩
        · rw [ez, ey, e10 hA, nI_1]
          refine ih (i + 1) M'' (by omega) hA (fun M3 a3 => ?_)
          have := hq M3 a3
          rw [rkv, if_pos (hl.trans q)] at this
          exact this
        · have := hq M'' hA
          rw [rkv, if_neg (fun z => q (hl.symm.trans z))] at this
          rw [hA.2.1 9 (by decide), a9]
          exact this
  refine ⟨m + 1, ?_⟩
  have := loop m 0 M (by omega) ag_rf hq
  rw [x6] at this
  exact this
theorem z_rankOfC {n j : Nat} {C R : Sg} {Q : Sg → Int32 → Prop} (hX : RelX C R) (hj : j < n) (hq : ∀ C', ag [] [7, 12] C C' → Q C' (rk C j)) : wX8_rankOf n C j Q := by
  obtain ⟨m, hd, st, hX⟩ := hX
  have h : RelX1 m hd st C R := hX
  refine ⟨hj, vp_in_nI (n := 0) (by decide) (by decide), fun M1 e1 => ⟨hj, vp_in_nI (n := 1) (by decide) (by decide), fun M2 e2 => ⟨hj, vp_in_nI (n := 2) (by decide) (by decide), fun M3 e3 => ⟨hj, vp_in_nI (n := 3) (by decide) (by decide), fun M4 e4 => ⟨hj, vp_in_nI (n := 4) (by decide) (by decide), fun M5 e5 => ⟨vp_in_nI (n := 5) (by decide) (by decide), fun M6 e6 => ?_⟩⟩⟩⟩⟩⟩
  have hA : ag [] [7, 12] C M6 := by
    subst e1 e2 e3 e4 e5 e6
    exact ag_sA (ag_sA (ag_sA (ag_sA (ag_sA (ag_sA ag_rf (by decide)) (by decide)) (by decide)) (by decide)) (by decide)) (by decide)
  have hG : ∀ f, f < 6 → gA M6 7 f = fct C j f := by
    subst e1 e2 e3 e4 e5 e6
    intro f hf
    show upd (upd (upd (upd (upd (upd (gA C 7) 0 (gA C 53 j)) 1 (gA C 52 j)) 2 (gI C 1 - gA C 51 j)) 3 (gA C 60 j)) 4 (gA C 55 j - gI C 1)) 5 (gI C 1) f = _
    match f, hf with
    | 0, _ => rfl
    | 1, _ => rfl
    | 2, _ => rfl
    | 3, _ => rfl
    | 4, _ => rfl
    | 5, _ => rfl
  have e15 : (gI C 15).toNatClampNeg = m := by rw [h.2.2.1]; exact nI_clamp (by have := h.1; omega)
  refine z_rankBy h (hA.2.1 9 (by decide)) (hA.2.1 10 (by decide)) (hA.2.1 11 (by decide)) (hA.1 15 (by simp)) hG (fun M' a => ?_)
  have := hq M' (ag_tr hA (ag_mono a (fun _ q => q) (by decide)))
  unfold rk at this
  rw [e15] at this
  exact this
theorem z_linesM {m hd : Nat} {st : Nat → Nat} {C R M : Sg} {G : Nat → Int32} {Q : Sg → Int32 → Prop} (h : RelX1 m hd st C R) (i15 : gI M 15 = gI R 15) (a10 : gA M 10 = gA R 10) (a11 : gA M 11 = gA R 11) (a12 : gA M 12 = gA R 12) (a13 : gA M 13 = gA R 13) (a14 : gA M 14 = gA R 14) (hG : ∀ f, f < 6 → gA M 22 f = G f) (hq : ∀ M', ag [] [23] M M' → Q M' (rkv (gA C 9) (gA C 10) (gA C 11) G m 0)) : ∃ f, vX9_rankOf_88 Q f M (nI (16 * hd)) := by
  obtain ⟨x1, x2, x3, x4, x5, x6, x7, x8⟩ := id h
  have loop : ∀ (k i : Nat) (M' : Sg), i + k = m → ag [] [23] M M' → (∀ M', ag [] [23] M M' → Q M' (rkv (gA C 9) (gA C 10) (gA C 11) G k i)) → vX9_rankOf_88 Q (k + 1) M' (nI (16 * hd + i)) := by
    intro k
    induction k with
    | zero =>
      intro i M' hi ha hq
      have e15 : gI M' 15 = nI hd := by rw [ha.1 15 (by simp), i15, x4]
      refine ⟨by rw [e15]; exact vp_in_nI (by omega) (by decide), fun _ => hq M' ha, fun q => absurd ?_ q⟩
      rw [e15, nI_clamp (by omega), ha.2.1 10 (by decide), a10, x5, show (16 : Int32) = nI 16 from rfl, pk_mul, nI_add]
      exact nI_le (by omega) (by omega)
    | succ k ih =>
      intro i M' hi ha hq
      obtain ⟨y1, y2, y3, y4, y5, y6, y7, y8⟩ := x8 i (by omega)
      have hin : vp_in (nI (16 * hd + i)) 32 := vp_in_nI (by omega) (by decide)
      have hcl : (nI (16 * hd + i)).toNatClampNeg = 16 * hd + i := nI_clamp (by omega)
      have hb := RelX1_le h (show i + 1 ≤ m by omega)
      have e15 : gI M' 15 = nI hd := by rw [ha.1 15 (by simp), i15, x4]
      have hok : ∀ j, st i ≤ j → j < st i + (st (i + 1) - st i) → okc (gA C 11 j) := fun j h1 h2 => codeR_ok (y6 j h1 (by omega))
      refine ⟨by rw [e15]; exact vp_in_nI (by omega) (by decide), fun q => absurd q ?_, fun _ => ⟨hin, ?_⟩⟩
      · rw [e15, nI_clamp (by omega), ha.2.1 10 (by decide), a10, x5, show (16 : Int32) = nI 16 from rfl, pk_mul, nI_add]
        exact nI_ge (by omega) (by omega)
      rw [hcl, ha.2.1 12 (by decide), a12, y5]
      have := z_worth (K := gA C 11) (F := gA M' 22) (b := 660 * hd + i) (Q := fun M_1 r_2 => ((r_2 = 0 → (∀ (x_3 : Int32), x_3 = nI (16 * hd + i) + (1 : Int32) → (vX9_rankOf_88 Q (k + 1) M_1 x_3))) ∧ (¬ r_2 = 0 → (vp_in (nI (16 * hd + i)) 32 ∧ (Q M_1 (gA M_1 11 (16 * hd + i))))))) (st (i + 1) - st i) (st i) 0 [] M' (by omega) (by omega) (fun j h1 h2 => ?_) ?_ y8 rfl trivial rfl ?_
      · rw [show 660 * hd + i + st i = 660 * hd + st i + i by omega] at this
        exact this
      · rw [ha.2.1 13 (by decide), ha.2.1 14 (by decide), a13, a14, show 660 * hd + i + j = 660 * hd + j + i by omega]
        exact y6 j h1 (by omega)
      · rw [ha.2.1 13 (by decide), a13, show 660 * hd + i + st i + (st (i + 1) - st i) = 660 * hd + st (i + 1) + i by omega]
        exact y7
      · intro M'' v a e
        have e : ev (gA C 11) G (st (i + 1) - st i) (st i) [] = [v] := by
          rw [← ev_cong (F := gA M' 22) (G := G) (fun f hf => by rw [ha.2.1 22 (by decide)]; exact hG f hf) _ _ _ hok]
          exact e
        have hl : lval (gA C 10) (gA C 11) G i = v := by rw [RelX1_lval h (by omega), e]; rfl
        have hA := ag_tr ha a
        refine ⟨fun q y ey => ?_, fun q => ⟨hin, ?_⟩⟩
        · rw [ey, nI_1]
          refine ih (i + 1) M'' (by omega) hA (fun M3 a3 => ?_)
          have := hq M3 a3
          rw [rkv, if_pos (hl.trans q)] at this
          exact this
        · have := hq M'' hA
          rw [rkv, if_neg (fun z => q (hl.symm.trans z))] at this
          rw [hA.2.1 11 (by decide), a11, ← y2]
          exact this
  exact ⟨m + 1, loop m 0 M (by omega) ag_rf hq⟩
theorem z_rankOfM {n w x j : Nat} {C R : Sg} {Q : Sg → Int32 → Prop} (hB : RelB n w x C R) (hL : RelL1 x C R j) (hX : RelX C R) (hj : j < n) (hq : ∀ R', ag [] [22, 23] R R' → Q R' (rk C j)) : wX9_rankOf R (nI j) Q := by
  obtain ⟨m, hd, st, hX⟩ := hX
  have h : RelX1 m hd st C R := hX
  have hn : n ≤ 60 := hB.1
  have hin : vp_in (nI j) 60 := vp_in_nI (by omega) (by decide)
  have hcl : (nI j).toNatClampNeg = j := nI_clamp (by omega)
  unfold wX9_rankOf
  rw [hcl]
  refine ⟨hin, vp_in_nI (n := 0) (by decide) (by decide), fun M1 e1 => ⟨hin, vp_in_nI (n := 1) (by decide) (by decide), fun M2 e2 => ⟨hin, vp_in_nI (n := 2) (by decide) (by decide), fun M3 e3 => ⟨hin, vp_in_nI (n := 3) (by decide) (by decide), fun M4 e4 => ⟨hin, vp_in_nI (n := 4) (by decide) (by decide), fun M5 e5 => ⟨vp_in_nI (n := 5) (by decide) (by decide), fun M6 e6 y ey => ?_⟩⟩⟩⟩⟩⟩
  have hA : ag [] [22, 23] R M6 := by
    subst e1 e2 e3 e4 e5 e6
    exact ag_sA (ag_sA (ag_sA (ag_sA (ag_sA (ag_sA ag_rf (by decide)) (by decide)) (by decide)) (by decide)) (by decide)) (by decide)
  obtain ⟨g1, g2, g3, g4, g5, g6, g7, g8, g9, g10, g11, g12, -⟩ := hL
  have b6 := hB.2.2.2.2.2.1
  have b7 := hB.2.2.2.2.2.2.1
  have hG : ∀ f, f < 6 → gA M6 22 f = fct C j f := by
    subst e1 e2 e3 e4 e5 e6
    intro f hf
    show upd (upd (upd (upd (upd (upd (gA R 22) 0 (gA R 32 j)) 1 (gA R 31 j)) 2 (gI R 24 - gA R 37 j)) 3 (gA R 40 j)) 4 (gA R 34 j - gI R 24)) 5 (gI R 24) f = _
    rw [← g2, ← g3, ← g4, ← g6, ← g11, b7, ← b6]
    match f, hf with
    | 0, _ => rfl
    | 1, _ => rfl
    | 2, _ => rfl
    | 3, _ => rfl
    | 4, _ => rfl
    | 5, _ => rfl
  have e15 : (gI C 15).toNatClampNeg = m := by rw [h.2.2.1]; exact nI_clamp (by have := h.1; omega)
  rw [hA.1 15 (by simp), h.2.2.2.1, show (16 : Int32) = nI 16 from rfl, pk_mul] at ey
  subst ey
  refine z_linesM h (hA.1 15 (by simp)) (hA.2.1 10 (by decide)) (hA.2.1 11 (by decide)) (hA.2.1 12 (by decide)) (hA.2.1 13 (by decide)) (hA.2.1 14 (by decide)) hG (fun M' a => ?_)
  have := hq M' (ag_tr hA (ag_mono a (fun _ q => q) (by decide)))
  unfold rk at this
  rw [e15] at this
  exact this
