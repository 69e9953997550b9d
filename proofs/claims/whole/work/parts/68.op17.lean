/-! routes: the reference's search -/
def GP (L : Rts) (f : Nat) (tg : Int32) (pl : Nat) (M M' : Sg) : Prop :=
  ag [53, 55, 59, 61] [51, 52, 54] M M' ∧ gI M' 53 = gI M 53 ∧ gA M' 51 = gA M 51 ∧ (∀ q, q < pl → gA M' 52 q = gA M 52 q) ∧ gI M' 59 = nI (f + L.length) ∧
  ((∀ i, i < L.length → tg ≠ nI (f + i)) → gI M' 55 = gI M 55 ∧ gI M' 61 = gI M 61 ∧ gA M' 54 = gA M 54) ∧
  ∀ i p t, L[i]? = some (p, t) → tg = nI (f + i) → gI M' 55 = nI p.length ∧ gI M' 61 = t ∧ p.length ≤ 8 ∧ pth (gA M' 54) p
theorem GP_0 {f pl : Nat} {tg : Int32} {M : Sg} (h : gI M 59 = nI f) : GP [] f tg pl M M := ⟨ag_rf, rfl, rfl, fun _ _ => rfl, h, fun _ => ⟨rfl, rfl, rfl⟩, fun i p t q => absurd q (by simp)⟩
theorem z_ilt {α : Type} {B : List α} {i : Nat} {v : α} (h : B[i]? = some v) : i < B.length := by
  rcases Nat.lt_or_ge i B.length with z | z
  · exact z
  · rw [List.getElem?_eq_none z] at h; exact absurd h (by simp)
theorem GP_app {B L : Rts} {f pl : Nat} {tg : Int32} {M M1 M' : Sg} (hb : f + (B ++ L).length ≤ 2 ^ 30) (h : GP B f tg pl M M1) (g : GP L (f + B.length) tg pl M1 M') : GP (B ++ L) f tg pl M M' := by
  obtain ⟨h1, h2, h3, h4, h5, h6, h7⟩ := h
  obtain ⟨g1, g2, g3, g4, g5, g6, g7⟩ := g
  have hb' : f + B.length + L.length ≤ 2 ^ 30 := by rw [List.length_append] at hb; omega
  refine ⟨ag_tr h1 g1, g2.trans h2, g3.trans h3, fun q hq => (g4 q hq).trans (h4 q hq), by rw [g5, List.length_append, Nat.add_assoc], fun q => ?_, fun i p t q1 q2 => ?_⟩
  · have k1 := h6 (fun i hi => q i (by rw [List.length_append]; omega))
    have k2 := g6 (fun i hi => by
      have := q (B.length + i) (by rw [List.length_append]; omega)
      rw [show f + (B.length + i) = f + B.length + i by omega] at this
      exact this)
    exact ⟨k2.1.trans k1.1, k2.2.1.trans k1.2.1, k2.2.2.trans k1.2.2⟩
  · by_cases c : i < B.length
    · rw [List.getElem?_append_left c] at q1
      obtain ⟨k1, k2, k3, k4⟩ := h7 i p t q1 q2
      have k5 := g6 (fun i' hi' e => by
        rw [q2, nI_eq (by omega) (by omega)] at e
        omega)
      exact ⟨k5.1.trans k1, k5.2.1.trans k2, k3, by rw [k5.2.2]; exact k4⟩
    · rw [List.getElem?_append_right (by omega)] at q1
      exact g7 (i - B.length) p t q1 (by rw [q2, show f + B.length + (i - B.length) = f + i by omega])
theorem z_copy {Q : Sg → Prop} {p : List Nat} {M : Sg} (hl : p.length ≤ 8) (h53 : gI M 53 = nI p.length) (hp : pth (gA M 52) p) (hq : ∀ M', ag [] [54] M M' → pth (gA M' 54) p → vX9_ends_90 Q M') : ∃ f, vX9_ends_64 Q f M (0 : Int32) := by
  have loop : ∀ (k j : Nat) (M1 : Sg), j + k = p.length → ag [] [54] M M1 → (∀ q, q < j → gA M1 54 q = nI (p.getD q 0)) → vX9_ends_64 Q (k + 1) M1 (nI j) := by
    intro k
    induction k with
    | zero =>
      intro j M1 hj a h
      have ej : j = p.length := by omega
      subst ej
      exact ⟨fun _ => hq M1 a h, fun c => absurd (by rw [a.1 53 (by simp), h53]; exact Int32.le_refl _) c⟩
    | succ k ih =>
      intro j M1 hj a h
      have hin : vp_in (nI j) 8 := vp_in_nI (by omega) (by decide)
      have hcl : (nI j).toNatClampNeg = j := nI_clamp (by omega)
      refine ⟨fun c => absurd c (by rw [a.1 53 (by simp), h53]; exact nI_ge (by omega) (by omega)), fun _ => ⟨hin, hin, fun M2 e2 y ey => ?_⟩⟩
      rw [hcl, a.2.1 52 (by decide), hp j (by omega)] at e2
      subst e2
      rw [ey, nI_1]
      refine ih (j + 1) _ (by omega) (ag_sA a (by decide)) (fun q hq => ?_)
      show upd (gA M1 54) j _ q = _
      by_cases e : q = j
      · rw [e, pk_us]
      · rw [pk_un e]; exact h q (by omega)
  exact ⟨p.length + 1, loop p.length 0 M (by omega) ag_rf (fun q hq => absurd hq (Nat.not_lt_zero q))⟩
theorem z_ends {f pl : Nat} {lo hi wa tg t v : Int32} {p : List Nat} {M : Sg} {Q : Sg → Prop} (h56 : gI M 56 = lo) (h57 : gI M 57 = hi) (h58 : gI M 58 = wa) (h60 : gI M 60 = tg) (h59 : gI M 59 = nI f) (h53 : gI M 53 = nI p.length) (h2 : 2 ≤ p.length) (hl : p.length ≤ 8) (hp : pth (gA M 52) p) (hq : ∀ M', GP (onR lo hi wa p t v) f tg pl M M' → Q M') : wX9_ends M t v Q := by
  have none' : fitR lo hi wa t v ≠ true → Q M := fun c => hq M (by
    unfold onR
    rw [if_neg c]
    exact GP_0 h59)
  unfold wX9_ends
  rw [h53, h56, h57, h58, h59, h60]
  refine ⟨fun c => absurd c (by rw [show (2 : Int32) = nI 2 from rfl]; exact nI_nlt h2 (by omega)), fun _ => ⟨fun c => none' (fun q => (fitR_t.mp q).1 c), fun c1 => ⟨fun c => none' (fun q => (fitR_t.mp q).2.1 c), fun c2 => ⟨fun c3 => ?_, fun c3 => none' (fun q => c3 (fitR_t.mp q).2.2)⟩⟩⟩⟩
  have e1 : onR lo hi wa p t v = [(p, t)] := by unfold onR; rw [if_pos (fitR_t.mpr ⟨c1, c2, c3⟩)]
  rw [e1] at hq
  refine ⟨fun c4 M1 e1 => hq M1 ?_, fun c4 M1 e1 M2 e2 => ?_⟩
  · subst e1
    refine ⟨ag_sI ag_rf (by decide), rfl, rfl, fun _ _ => rfl, by show gI M 59 + 1 = _; rw [h59]; exact nI_1 f, fun _ => ⟨rfl, rfl, rfl⟩, fun i p' t' q1 q2 => ?_⟩
    have hi0 : i = 0 := by have := z_ilt q1; simpa using this
    rw [hi0] at q2
    exact absurd q2.symm c4
  · subst e1 e2
    refine z_copy hl h53 hp (fun M3 a3 p3 M4 e4 => hq M4 ?_)
    subst e4
    refine ⟨ag_sI (ag_tr (ag_sI (ag_sI ag_rf (by decide)) (by decide)) (ag_mono a3 (by simp) (by simp))) (by decide), a3.1 53 (by simp), a3.2.1 51 (by decide), fun q _ => congrFun (a3.2.1 52 (by decide)) q, ?_, fun q => absurd c4.symm (q 0 (by simp)), fun i p' t' q1 q2 => ?_⟩
    · show gI M3 59 + 1 = _
      rw [a3.1 59 (by simp)]
      show gI M 59 + 1 = _
      rw [h59]; exact nI_1 f
    · have hi0 : i = 0 := by have := z_ilt q1; simpa using this
      subst hi0
      have e : (p, t) = (p', t') := by simpa using q1
      injection e with e1 e2
      subst e1 e2
      exact ⟨a3.1 55 (by simp), a3.1 61 (by simp), hl, p3⟩
def gon (g : Nat → Int32) (p : List Nat) : Prop := ∀ k, k < 24 → g k = if k ∈ p then 1 else 0
/-- the streets as the reference holds them -/
def stM (m : Nat) (R M : Sg) : Prop := gI M 45 = nI m ∧ gA M 46 = gA R 46 ∧ gA M 47 = gA R 47 ∧ gA M 48 = gA R 48 ∧ gA M 49 = gA R 49 ∧ gA M 50 = gA R 50
theorem stM_ag {m : Nat} {R M M' : Sg} {I A : List Nat} (h : stM m R M) (a : ag I A M M') (i45 : 45 ∉ I) (hA : ∀ b ∈ [46, 47, 48, 49, 50], b ∉ A) : stM m R M' := by
  obtain ⟨h1, h2, h3, h4, h5, h6⟩ := h
  exact ⟨(a.1 45 i45).trans h1, (a.2.1 46 (hA 46 (by decide))).trans h2, (a.2.1 47 (hA 47 (by decide))).trans h3, (a.2.1 48 (hA 48 (by decide))).trans h4, (a.2.1 49 (hA 49 (by decide))).trans h5, (a.2.1 50 (hA 50 (by decide))).trans h6⟩
theorem upd_same {f : Nat → Int32} {k : Nat} {v : Int32} (h : f k = v) : upd f k v = f := by
  funext j
  by_cases e : j = k
  · rw [e, pk_us, h]
  · rw [pk_un e]
theorem z_goes {m : Nat} {lo hi wa tg : Int32} {C R : Sg} (hS : RelS m C R) : ∀ (d c : Nat) (p : List Nat) (t v : Int32) (f : Nat) (M : Sg) (Q : Sg → Prop), p.length + d = 8 → c < 12 → (c = 0 ↔ p = []) → stM m R M → gI M 56 = lo → gI M 57 = hi → gI M 58 = wa → gI M 60 = tg → gI M 59 = nI f → gI M 53 = nI p.length → pth (gA M 52) p → gon (gA M 51) p → f + (dfs R m lo hi wa d c p t v).length ≤ 2 ^ 30 → (∀ M', GP (dfs R m lo hi wa d c p t v) f tg p.length M M' → Q M') → wX9_goes (d + 2) M (nI c) t v Q := by
  have m24 : m ≤ 24 := hS.1
  intro d
  induction d with
  | zero =>
    intro c p t v f M Q hl hc hcp hM h56 h57 h58 h60 h59 h53 hp hg hb hq
    have hc0 : ¬ nI c = 0 := fun q => by
      rw [show (0 : Int32) = nI 0 from rfl, nI_eq (by omega) (by omega)] at q
      have := hcp.mp q
      rw [this] at hl
      exact absurd hl (by decide)
    refine ⟨fun _ => ⟨1, fun _ => hq M (GP_0 h59), fun _ => ⟨fun _ => hq M (GP_0 h59), fun q => absurd ?_ q⟩⟩, fun q => absurd q hc0⟩
    rw [h53, show p.length = 8 by omega]
    decide
  | succ d ih =>
    intro c p t v f M Q hl hc hcp hM h56 h57 h58 h60 h59 h53 hp hg hb hq
    show wX9_goes_b (wX9_goes (d + 2)) M (nI c) t v Q
    have hpin : vp_in (nI p.length) 8 := vp_in_nI (by omega) (by decide)
    have hpcl : (nI p.length).toNatClampNeg = p.length := nI_clamp (by omega)
    have loop : ∀ (j k f' : Nat) (M1 : Sg), k + j = m → ag [53, 55, 59, 61] [51, 52, 54] M M1 → gI M1 53 = nI p.length → gA M1 51 = gA M 51 → pth (gA M1 52) p → gI M1 59 = nI f' → f' + (((List.range' k j).filter (inc R c)).flatMap (brR R lo hi wa (dfs R m lo hi wa d) c p t v)).length ≤ 2 ^ 30 → (∀ M', GP (((List.range' k j).filter (inc R c)).flatMap (brR R lo hi wa (dfs R m lo hi wa d) c p t v)) f' tg p.length M1 M' → Q M') → vX9_goes_21 (wX9_goes (d + 2)) Q (j + 1) M1 (nI c) t v (nI k) := by
      intro j
      induction j with
      | zero =>
        intro k f' M1 hk a h53 h51 hp h59 hb hq
        have hM1 := stM_ag hM a (by decide) (by decide)
        exact ⟨fun _ => hq M1 (GP_0 h59), fun q => absurd (by rw [hM1.1]; exact nI_le (by omega) (by omega)) q⟩
      | succ j ihj =>
        intro k f' M1 hk a h53 h51 hp h59 hb hq
        have hM1 := stM_ag hM a (by decide) (by decide)
        have k24 : k < 24 := by omega
        have hin : vp_in (nI k) 24 := vp_in_nI k24 (by decide)
        have hcl : (nI k).toNatClampNeg = k := nI_clamp (by omega)
        have eL : ((List.range' k (j + 1)).filter (inc R c)).flatMap (brR R lo hi wa (dfs R m lo hi wa d) c p t v) = (if inc R c k = true then brR R lo hi wa (dfs R m lo hi wa d) c p t v k else []) ++ ((List.range' (k + 1) j).filter (inc R c)).flatMap (brR R lo hi wa (dfs R m lo hi wa d) c p t v) := by
          rw [List.range'_succ, List.filter_cons]
          by_cases e : inc R c k = true
          · rw [if_pos e, if_pos e, List.flatMap_cons]
          · rw [if_neg e, if_neg e, List.nil_append]
        rw [eL] at hq hb
        obtain ⟨B, eB⟩ : ∃ B, B = (if inc R c k = true then brR R lo hi wa (dfs R m lo hi wa d) c p t v k else []) := ⟨_, rfl⟩
        rw [← eB] at hq hb
        have fin : ∀ M3, GP B f' tg p.length M1 M3 → vX9_goes_178 (wX9_goes (d + 2)) (vX9_goes_21 (wX9_goes (d + 2)) Q (j + 1)) Q M3 (nI c) t v (nI k) := by
          intro M3 h3 y ey
          rw [ey, nI_1]
          obtain ⟨x1, x2, x3, x4, x5, x6, x7⟩ := id h3
          exact ihj (k + 1) (f' + B.length) M3 (by omega) (ag_tr a x1) (x2.trans h53) (x3.trans h51) (pth_cong hp x4) x5 (by rw [List.length_append] at hb; omega) (fun M' hG => hq M' (GP_app hb h3 hG))
        have skip : B = [] → vX9_goes_178 (wX9_goes (d + 2)) (vX9_goes_21 (wX9_goes (d + 2)) Q (j + 1)) Q M1 (nI c) t v (nI k) := fun e => fin M1 (by rw [e]; exact GP_0 h59)
        have skipb : ¬ (gA R 50 k = 0 ∧ k ∉ p) → B = [] := fun e => by
          rw [eB]
          by_cases z : inc R c k = true
          · rw [if_pos z]; unfold brR; rw [if_neg e]
          · rw [if_neg z]
        refine ⟨fun q => absurd q (by rw [hM1.1]; exact nI_ge (by omega) (by omega)), fun _ => ⟨fun q => absurd q (by rw [h53, show (8 : Int32) = nI 8 from rfl]; exact nI_ge (by omega) (by decide)), fun _ => ⟨hin, ?_⟩⟩⟩
        rw [hcl, hM1.2.2.2.2.2, h51, hM1.2.1, hM1.2.2.1]
        refine ⟨fun q => skip (skipb (fun z => q z.1)), fun c1 => ⟨hin, fun q => skip (skipb (fun z => ?_)), fun c2 => ⟨hin, ?_⟩⟩⟩
        · rw [hg k k24, if_neg z.2] at q
          exact absurd rfl q
        have hkp : k ∉ p := fun z => by
          rw [hg k k24, if_pos z] at c2
          exact absurd c2 (by decide)
        have main : inc R c k = true → vX9_goes_81 (wX9_goes (d + 2)) (vX9_goes_21 (wX9_goes (d + 2)) Q (j + 1)) Q M1 (nI c) t v (nI k) := by
          intro hi'
          have hlen : (p ++ [k]).length = p.length + 1 := by rw [List.length_append, List.length_singleton]
          obtain ⟨b, b1, b2, b3⟩ := byd_ok hS hc (show k < m by omega) hi'
          have eB' : B = if byd R c k = 0 then onR lo hi wa (p ++ [k]) (t + gA R 48 k) (v ||| gA R 49 k) else dfs R m lo hi wa d b (p ++ [k]) (t + gA R 48 k) (v ||| gA R 49 k) := by
            rw [eB, if_pos hi']
            unfold brR
            rw [if_pos ⟨c1, hkp⟩, b2, nI_clamp (by omega)]
          refine ⟨hin, fun M2 e2 => ?_⟩
          rw [hcl, z_nar1] at e2
          have i53 : gI M2 53 = nI p.length := by rw [e2]; exact h53
          refine ⟨by rw [i53]; exact hpin, fun M3 e3 M4 e4 => ?_⟩
          rw [i53, hpcl] at e3
          have i53' : gI M3 53 = nI p.length := by rw [e3]; exact i53
          rw [i53', nI_1] at e4
          have a4 : ag [53, 55, 59, 61] [51, 52, 54] M1 M4 := by rw [e4, e3, e2]; exact ag_sI (ag_sA (ag_sA ag_rf (by decide)) (by decide)) (by decide)
          have hM4 := stM_ag hM1 a4 (by decide) (by decide)
          have f51 : gA M4 51 = upd (gA M 51) k 1 := by rw [e4, e3, e2, ← h51]; rfl
          have f52 : gA M4 52 = upd (gA M1 52) p.length (nI k) := by rw [e4, e3, e2]; rfl
          have f53 : gI M4 53 = nI (p ++ [k]).length := by rw [e4, hlen]; rfl
          have f59 : gI M4 59 = nI f' := by rw [e4, e3, e2]; exact h59
          have f54 : gA M4 54 = gA M1 54 := by rw [e4, e3, e2]; rfl
          have f55 : gI M4 55 = gI M1 55 := by rw [e4, e3, e2]; rfl
          have f61 : gI M4 61 = gI M1 61 := by rw [e4, e3, e2]; rfl
          have p4 : pth (gA M4 52) (p ++ [k]) := by rw [f52]; exact pth_s hp
          have w139 : vX9_goes_139 (wX9_goes (d + 2)) (vX9_goes_21 (wX9_goes (d + 2)) Q (j + 1)) Q M4 (nI c) t v (nI k) (byd R c k) := by
            refine ⟨hin, hin, ?_⟩
            rw [hcl, hM4.2.2.2.1, hM4.2.2.2.2.1]
            have back : ∀ M5, GP B f' tg (p.length + 1) M4 M5 → ∀ M6, M6 = sI M5 53 (gI M5 53 - 1) → vp_in (nI k) 24 ∧ ∀ M7, M7 = sA M6 51 k (vp_nar .boolean (0 : Int32)) → vX9_goes_178 (wX9_goes (d + 2)) (vX9_goes_21 (wX9_goes (d + 2)) Q (j + 1)) Q M7 (nI c) t v (nI k) := by
              intro M5 h5 M6 e6
              refine ⟨hin, fun M7 e7 => fin M7 ?_⟩
              rw [z_nar0] at e7
              obtain ⟨x1, x2, x3, x4, x5, x6, x7⟩ := h5
              have e53 : gI M5 53 - 1 = nI p.length := by rw [x2, f53, hlen, nI_pred]
              rw [e53] at e6
              subst e6 e7
              refine ⟨ag_sA (ag_sI (ag_tr a4 x1) (by decide)) (by decide), h53.symm, ?_, fun q hq => ?_, x5, fun q => ?_, x7⟩
              · show upd (gA M5 51) k 0 = _
                rw [x3, f51, upd_upd, h51]
                exact upd_same c2
              · show gA M5 52 q = _
                rw [x4 q (by omega), f52, pk_un (by omega)]
              · have := x6 q
                exact ⟨this.1.trans f55, this.2.1.trans f61, this.2.2.trans f54⟩
            have g56 := (a4.1 56 (by decide)).trans ((a.1 56 (by decide)).trans h56)
            have g57 := (a4.1 57 (by decide)).trans ((a.1 57 (by decide)).trans h57)
            have g58 := (a4.1 58 (by decide)).trans ((a.1 58 (by decide)).trans h58)
            have g60 := (a4.1 60 (by decide)).trans ((a.1 60 (by decide)).trans h60)
            by_cases c3 : byd R c k = 0
            · rw [if_pos c3] at eB'
              rw [c3]
              have hpn : p ≠ [] := fun z => by
                have z0 := hcp.mpr z
                rw [b2, show (0 : Int32) = nI 0 from rfl, nI_eq (by omega) (by omega)] at c3
                omega
              have hp1 : 0 < p.length := List.length_pos_iff.mpr hpn
              show wX9_goes_b (wX9_goes (d + 1)) M4 0 _ _ _
              refine ⟨fun q => absurd rfl q, fun _ => ⟨fun q => absurd q (by rw [f53]; exact nI_nle (by omega) (by omega)), fun _ => ?_⟩⟩
              exact z_ends (pl := p.length + 1) g56 g57 g58 g60 f59 f53 (by omega) (by omega) p4 (fun M5 h5 => back M5 (by rw [eB']; exact h5))
            · rw [if_neg c3] at eB'
              rw [b2]
              have hb0 : b ≠ 0 := fun z => c3 (by rw [b2, z]; rfl)
              refine ih b (p ++ [k]) _ _ f' M4 _ (by omega) b1 ⟨fun z => absurd z hb0, fun z => by simp at z⟩ hM4 g56 g57 g58 g60 f59 f53 p4 (fun q hq => ?_) (by rw [← eB']; rw [List.length_append] at hb; omega) (fun M5 h5 => ?_)
              · rw [f51]
                by_cases z : q = k
                · rw [z, pk_us, if_pos (by simp)]
                · rw [pk_un z, hg q hq]
                  have hm : q ∈ p ++ [k] ↔ q ∈ p := by rw [List.mem_append, List.mem_singleton]; exact ⟨fun y => y.elim id (fun y => absurd y z), Or.inl⟩
                  by_cases y : q ∈ p
                  · rw [if_pos y, if_pos (hm.mpr y)]
                  · rw [if_neg y, if_neg (fun u => y (hm.mp u))]
              · rw [hlen] at h5
                exact back M5 (by rw [eB']; exact h5)
          refine ⟨hin, ?_⟩
          rw [hcl, hM4.2.1, hM4.2.2.1]
          unfold byd at w139
          refine ⟨fun c3 => ⟨hin, ?_⟩, fun c3 => ⟨hin, ?_⟩⟩
          · rw [if_neg c3] at w139; exact w139
          · rw [if_pos c3] at w139; exact w139
        refine ⟨fun q => main (inc_t.mpr (Or.inl q)), fun q => ⟨hin, fun q2 => skip ?_, fun q2 => main (inc_t.mpr (Or.inr q2))⟩⟩
        rw [eB, if_neg (fun z => (inc_t.mp z).elim q q2)]
    have start : vX9_goes_18 (wX9_goes (d + 2)) Q M (nI c) t v := by
      have eI : (List.range' 0 m).filter (inc R c) = incs R c m := by unfold incs; rw [List.range_eq_range']
      refine ⟨m + 1, loop m 0 f M (by omega) ag_rf h53 rfl hp h59 (by rw [eI]; exact hb) (fun M' hG => hq M' ?_)⟩
      rw [eI] at hG
      exact hG
    refine ⟨fun _ => start, fun q => ⟨fun _ => start, fun q2 => absurd ?_ q2⟩⟩
    rw [show (0 : Int32) = nI 0 from rfl, nI_eq (by omega) (by omega)] at q
    rw [h53, hcp.mp q]
    decide
/-! routes and route: both sides -/
theorem z_areNum {a b c : Int32} {M : Sg} {Q : Sg → Int32 → Prop} (h0 : (a < 0 ∨ 240 < a) ∨ (b < 0 ∨ 240 < b) ∨ (c < 0 ∨ 255 < c) → Q M 0) (h1 : Q M 1) : wX9_areNumbers M a b c Q :=
  ⟨fun q => h0 (Or.inl (Or.inl q)), fun _ => ⟨fun q => h0 (Or.inl (Or.inr q)), fun _ => ⟨fun q => h0 (Or.inr (Or.inl (Or.inl q))), fun _ => ⟨fun q => h0 (Or.inr (Or.inl (Or.inr q))), fun _ => ⟨fun q => h0 (Or.inr (Or.inr (Or.inl q))), fun _ => ⟨fun q => h0 (Or.inr (Or.inr (Or.inr q))), fun _ => h1⟩⟩⟩⟩⟩⟩
theorem z_areBad {a b c : Int32} {M : Sg} {Q : Sg → Int32 → Prop} (h : (a < 0 ∨ 240 < a) ∨ (b < 0 ∨ 240 < b) ∨ (c < 0 ∨ 255 < c)) (h0 : Q M 0) : wX9_areNumbers M a b c Q := by
  refine ⟨fun _ => h0, fun a1 => ⟨fun _ => h0, fun a2 => ⟨fun _ => h0, fun b1 => ⟨fun _ => h0, fun b2 => ⟨fun _ => h0, fun c1 => ⟨fun _ => h0, fun c2 => ?_⟩⟩⟩⟩⟩⟩
  rcases h with (h | h) | (h | h) | (h | h)
  · exact absurd h a1
  · exact absurd h a2
  · exact absurd h b1
  · exact absurd h b2
  · exact absurd h c1
  · exact absurd h c2
abbrev allR (R : Sg) (m : Nat) (lo hi wa : Int32) : Rts := dfs R m lo hi wa 8 0 [] 0 0
theorem z_cntRC {n m : Nat} {a b c : Int32} {C R : Sg} {Q : Sg → Int32 → Prop} (hS : RelS m C R) (h0 : (a < 0 ∨ 240 < a) ∨ (b < 0 ∨ 240 < b) ∨ (c < 0 ∨ 255 < c) → Q C (-1)) (h1 : ¬ ((a < 0 ∨ 240 < a) ∨ (b < 0 ∨ 240 < b) ∨ (c < 0 ∨ 255 < c)) → ∀ M', ag [7, 8, 9, 10, 11, 12, 13] [25] C M' → gI M' 7 = a → gI M' 8 = b → gI M' 9 = c → Q M' (nI (allR R m a b c).length)) : wX3_countRoutes n C a b c Q := by
  have hlen := len_dfs (lo := a) (hi := b) (wa := c) hS 8 0 [] 0 0 (by decide)
  have hlen : (allR R m a b c).length ≤ 65536 := hlen
  unfold wX3_countRoutes vX3_countRoutes_26 vX3_countRoutes_27
  refine z_within (fun q => ⟨fun _ => ⟨fun _ => h0 (Or.inl q), fun q => absurd rfl q⟩, fun q => absurd rfl q⟩) (fun q1 q2 => ⟨fun q => absurd q (by decide), fun _ => ?_⟩)
  refine z_within (fun q => ⟨fun _ => ⟨fun _ => h0 (Or.inr (Or.inl q)), fun q => absurd rfl q⟩, fun q => absurd rfl q⟩) (fun q3 q4 => ⟨fun q => absurd q (by decide), fun _ => ⟨fun q => absurd q (by decide), fun _ => ?_⟩⟩)
  refine z_within (fun q => ⟨fun q => absurd rfl q, fun _ => h0 (Or.inr (Or.inr q))⟩) (fun q5 q6 => ⟨fun _ M3 e3 M4 e4 M5 e5 M6 e6 M7 e7 => ?_, fun q => absurd q (by decide)⟩)
  subst e3 e4 e5 e6 e7
  refine z_walk (R := R) (m := m) (lo := a) (hi := b) (wa := c) (tg := -1) 8 0 [] 0 0 0 0 _ _ rfl (by decide) usd_0 (RelS_C hS rfl (fun _ _ => rfl)) rfl rfl rfl rfl rfl pth_0 (fun M' r hW => ?_)
  obtain ⟨a1, ⟨-, w2, -⟩ | ⟨-, i, p, t, w1, w2, -⟩⟩ := hW
  · rw [w2, Nat.zero_add]
    refine h1 ?_ M' (ag_tr (ag_sI (ag_sI (ag_sI (ag_sI (ag_sI ag_rf (by decide)) (by decide)) (by decide)) (by decide)) (by decide)) (ag_mono a1 (by simp) (by simp))) (a1.1 7 (by decide)) (a1.1 8 (by decide)) (a1.1 9 (by decide))
    rintro ((q | q) | (q | q) | (q | q))
    · exact absurd q (Int32.not_lt.mpr q1)
    · exact absurd q (Int32.not_lt.mpr q2)
    · exact absurd q (Int32.not_lt.mpr q3)
    · exact absurd q (Int32.not_lt.mpr q4)
    · exact absurd q (Int32.not_lt.mpr q5)
    · exact absurd q (Int32.not_lt.mpr q6)
  · exfalso
    have := z_ilt w1
    have h9 : ((-1 : Int32)).toInt = -1 := by decide
    have := congrArg Int32.toInt w2
    rw [nI_toInt (by omega), h9] at this
    omega
theorem z_drawC {n m K : Nat} {a b c : Int32} {C R : Sg} {Q : Sg → Prop} (hS : RelS m C R) (h7 : gI C 7 = a) (h8 : gI C 8 = b) (h9 : gI C 9 = c) (hK : K < (allR R m a b c).length) (hq : ∀ M' p t, (allR R m a b c)[K]? = some (p, t) → ag [7, 8, 9, 10, 11, 12, 13] [25] C M' → gI M' 12 = nI p.length → gI M' 13 = t → p.length ≤ 8 → pth (gA M' 25) p → Q M') : wX3_search n C (nI K) Q := by
  have hlen : (allR R m a b c).length ≤ 65536 := len_dfs (lo := a) (hi := b) (wa := c) hS 8 0 [] 0 0 (by decide)
  intro M1 e1 M2 e2
  subst e1 e2
  refine z_walk (R := R) (m := m) (lo := a) (hi := b) (wa := c) (tg := nI K) 8 0 [] 0 0 0 0 _ _ rfl (by decide) usd_0 (RelS_C hS rfl (fun _ _ => rfl)) h7 h8 h9 rfl rfl pth_0 (fun M' r hW => ?_)
  obtain ⟨a1, ⟨-, -, w3, -⟩ | ⟨-, i, p, t, w1, w2, w3, w4, w5, w6⟩⟩ := hW
  · exact absurd (by rw [Nat.zero_add]) (w3 K hK)
  · have : i < (allR R m a b c).length := z_ilt w1
    rw [Nat.zero_add, nI_eq (by omega) (by omega)] at w2
    subst w2
    exact hq M' p t w1 (ag_tr (ag_sI (ag_sI ag_rf (by decide)) (by decide)) (ag_mono a1 (by simp) (by simp))) w3 w4 w5 w6
theorem z_cntRM {m : Nat} {a b c k : Int32} {C R M : Sg} {Q : Sg → Int32 → Prop} (hS : RelS m C R) (hM : stM m R M) (h51 : ∀ k, k < 24 → gA M 51 k = 0) (hq : ∀ M', GP (allR R m a b c) 0 k 0 (sI (sI (sI (sI (sI (sI M 56 a) 57 b) 58 c) 60 k) 59 0) 53 0) M' → Q M' (nI (allR R m a b c).length)) : wX9_countAll M a b c k Q := by
  have hlen : (allR R m a b c).length ≤ 65536 := len_dfs (lo := a) (hi := b) (wa := c) hS 8 0 [] 0 0 (by decide)
  intro M1 e1 M2 e2 M3 e3 M4 e4 M5 e5 M6 e6
  subst e1 e2 e3 e4 e5 e6
  refine z_goes (lo := a) (hi := b) (wa := c) (tg := k) hS 8 0 [] 0 0 0 _ _ rfl (by decide) ⟨fun _ => rfl, fun _ => rfl⟩ hM rfl rfl rfl rfl rfl rfl pth_0 (fun k hk => (h51 k hk).trans (by simp)) (by show 0 + (allR R m a b c).length ≤ 2 ^ 30; omega) (fun M' hG => ?_)
  have e := hG.2.2.2.2.1
  rw [Nat.zero_add] at e
  rw [e]
  exact hq M' hG
theorem Rel_cs {i n : Nat} {C C' R : Sg} (h : Rel i n C R) (a : ag [7, 8, 9, 10, 11, 12, 13] [25] C C') : Rel i n C' R := Rel_C h (fun k hk => a.1 k (fun q => by revert hk; revert k; decide)) (fun k hk => a.2.1 k (fun q => by simp at q; subst q; revert hk; decide))
theorem z_dJ : ∀ a ∈ [2, 15, 24, 25, 30, 42, 45, 55], a ∉ [0, 53, 56, 57, 58, 59, 60, 61] := by decide
theorem z_dR : ∀ a ∈ [1, 10, 11, 12, 13, 14, 26, 27, 28, 29, 30, 31, 32, 33, 34, 35, 36, 37, 38, 39, 40, 41, 46, 47, 48, 49, 50, 51, 54], a ∉ [52] := by decide
theorem Rel_cr {i n : Nat} {C R R' : Sg} (h : Rel i n C R) (a : ag [0, 53, 56, 57, 58, 59, 60, 61] [52] R R') : Rel i n C R' := Rel_R h (fun k hk => a.1 k (z_dJ k hk)) (fun k hk => a.2.1 k (z_dR k hk)) a.2.2
/-- a search that draws nothing -/
theorem GP_ag {L : Rts} {M M' : Sg} (h : GP L 0 (-1) 0 M M') (hl : L.length ≤ 65536) : ag [0, 53, 56, 57, 58, 59, 60, 61] [52] M M' := by
  obtain ⟨x1, x2, x3, x4, x5, x6, x7⟩ := h
  obtain ⟨y1, y2, y3⟩ := x6 (fun i hi q => by
    have h9 : ((-1 : Int32)).toInt = -1 := by decide
    have := congrArg Int32.toInt q
    rw [nI_toInt (by omega), h9] at this
    omega)
  refine ⟨fun k hk => ?_, fun b hb => ?_, x1.2.2⟩
  · by_cases z : k = 55
    · rw [z]; exact y1
    · exact x1.1 k (fun q => by simp at q hk; omega)
  · by_cases z : b = 51
    · rw [z]; exact x3
    · by_cases z2 : b = 54
      · rw [z2]; exact y3
      · exact x1.2.1 b (fun q => by simp at q hb; omega)
theorem RelS_stM {m : Nat} {C R : Sg} (h : RelS m C R) : stM m R R := ⟨h.2.2.1, rfl, rfl, rfl, rfl, rfl⟩
theorem op_routes {i n : Nat} {C R : Sg} {a b c : Int32} (h : Rel i n C R) : wX8_routes n C a b c (fun C' r => wX9_routes R a b c (Nx i n C' r)) := by
  have h0 := Rel_thr (v := 0) h
  obtain ⟨-, -, -, ⟨m, hS⟩, -⟩ := id h0
  have hlen : (allR (sI R 0 0) m a b c).length ≤ 65536 := len_dfs (lo := a) (hi := b) (wa := c) hS 8 0 [] 0 0 (by decide)
  unfold wX8_routes
  refine z_cntRC hS (fun q M1 e1 => ?_) (fun q M' aM _ _ _ M1 e1 => ?_)
  · subst e1
    exact z_areBad q ⟨fun _ => Nx_same h0, fun q => absurd rfl q⟩
  · subst e1
    refine z_areNum (fun q' => absurd q' q) ⟨fun q => absurd q (by decide), fun _ => z_cntRM hS (RelS_stM hS) hS.2.2.2.2.2.1 (fun M2 hG => ⟨rfl, ?_⟩)⟩
    refine Rel_mono (Rel_cr (Rel_cs h0 aM) (ag_tr ?_ (GP_ag hG hlen))) (Nat.le_succ i)
    exact ag_sI (ag_sI (ag_sI (ag_sI (ag_sI (ag_sI ag_rf (by decide)) (by decide)) (by decide)) (by decide)) (by decide)) (by decide)
theorem Rel_draw {i n : Nat} {C R C' R' : Sg} (h : Rel i n C R) (aC : ag [6, 7, 8, 9, 10, 11, 12, 13] [25, 26] C C') (aR : ag [0, 53, 55, 56, 57, 58, 59, 60, 61] [52, 54] R R') (hD : RelD C' R') : Rel i n C' R' := by
  obtain ⟨⟨w, x, h1, h2⟩, h3, h4, ⟨m, h5⟩, h6, h7, h8, h9⟩ := h
  obtain ⟨e, f, -⟩ := aC
  obtain ⟨e', f', g'⟩ := aR
  refine ⟨⟨w, x, RelB_R (RelB_C h1 (e 0 (by decide)) (e 1 (by decide)) (e 23 (by decide)) (f 0 (by decide)) (f 1 (by decide))) (e' 24 (by decide)) (e' 25 (by decide)) (e' 30 (by decide)) (f' 26 (by decide)) (f' 27 (by decide)) (f' 28 (by decide)), RelL_R (RelL_C h2 (f 50 (by decide)) (f 51 (by decide)) (f 52 (by decide)) (f 53 (by decide)) (f 54 (by decide)) (f 55 (by decide)) (f 56 (by decide)) (f 57 (by decide)) (f 58 (by decide)) (f 59 (by decide)) (f 60 (by decide)) (f 61 (by decide))) (f' 31 (by decide)) (f' 32 (by decide)) (f' 33 (by decide)) (f' 34 (by decide)) (f' 35 (by decide)) (f' 36 (by decide)) (f' 37 (by decide)) (f' 38 (by decide)) (f' 39 (by decide)) (f' 40 (by decide)) (f' 41 (by decide))⟩, RelK_R (RelK_C h3 (f 2 (by decide))) (f' 38 (by decide)) (f' 39 (by decide)), RelP_R (RelP_C h4 (e 2 (by decide)) (e 3 (by decide)) (f 3 (by decide)) (f 4 (by decide))) (e' 42 (by decide)) (f' 28 (by decide)) (f' 29 (by decide)), ⟨m, RelS_R (RelS_C h5 (e 5 (by decide)) (fun a q => f a (by simp; omega))) (e' 45 (by decide)) (f' 46 (by decide)) (f' 47 (by decide)) (f' 48 (by decide)) (f' 49 (by decide)) (f' 50 (by decide)) (f' 51 (by decide))⟩, hD, RelF_R (RelF_C h7 (e 14 (by decide)) (f 8 (by decide))) (e' 2 (by decide)) (f' 1 (by decide)), RelX_R (RelX_C h8 (e 15 (by decide)) (f 9 (by decide)) (f 10 (by decide)) (f 11 (by decide))) (e' 15 (by decide)) (f' 10 (by decide)) (f' 11 (by decide)) (f' 12 (by decide)) (f' 13 (by decide)) (f' 14 (by decide)), g'.trans h9.1, fun j hj => ?_⟩
  rw [f' 40 (by decide), f' 41 (by decide)]
  exact h9.2 j hj
theorem op_route {i n : Nat} {C R : Sg} {a b c k : Int32} (h : Rel i n C R) : wX8_route n C a b c k (fun C' r => wX9_route R a b c k (Nx i n C' r)) := by
  have h0 := Rel_thr (v := 0) h
  obtain ⟨-, -, -, ⟨m, hS⟩, -⟩ := id h0
  have hlen : (allR (sI R 0 0) m a b c).length ≤ 65536 := len_dfs (lo := a) (hi := b) (wa := c) hS 8 0 [] 0 0 (by decide)
  unfold wX8_route wX3_draw
  refine ⟨fun k0 => ?_, fun k0 => ⟨fun q => absurd q (by decide), fun _ M1 e1 => ?_⟩⟩
  · obtain ⟨K, K1, K2⟩ := nI_of (Int32.not_lt.mpr k0)
    refine z_cntRC hS (fun q => ⟨fun q => absurd q (by decide), fun _ M1 e1 => ?_⟩) (fun q M' aM m7 m8 m9 => ⟨fun hz => ⟨fun q => ?_, ?_⟩, fun hz M1 e1 => ?_⟩)
    · subst e1
      exact z_areBad q ⟨fun _ => Nx_same h0, fun q => absurd rfl q⟩
    · rw [q] at hz
      exact absurd hz (by decide)
    · have hpos : 0 < (allR (sI R 0 0) m a b c).length := by
        rcases Nat.eq_zero_or_pos (allR (sI R 0 0) m a b c).length with z | z
        · rw [z] at hz; exact absurd hz (by decide)
        · exact z
      rw [K2, pk_rem K1 hpos (by omega)]
      have hKl : K % (allR (sI R 0 0) m a b c).length < (allR (sI R 0 0) m a b c).length := Nat.mod_lt _ hpos
      have hSM : RelS m M' (sI R 0 0) := RelS_C hS (aM.1 5 (by decide)) (fun b hb => aM.2.1 b (by simp; omega))
      refine z_drawC hSM m7 m8 m9 hKl (fun M2 p t hp a2 e12 e13 hl hpt M3 e3 M4 e4 M1 e1 => ?_)
      subst e1
      refine z_areNum (fun q' => absurd q' q) ⟨fun q => absurd q (by decide), fun _ => ⟨fun _ => ?_, fun q => absurd (nI_pos' K1) q⟩⟩
      refine z_cntRM hS (RelS_stM hS) hS.2.2.2.2.2.1 (fun R1 hG => ⟨fun _ => ⟨nI_ne0 hpos (by omega), ?_⟩, fun q => absurd q (nI_ne0 hpos (by omega))⟩)
      rw [pk_rem K1 hpos (by omega)]
      have aR1 : ag [0, 53, 56, 57, 58, 59, 60, 61] [52] (sI R 0 0) R1 := ag_tr (ag_sI (ag_sI (ag_sI (ag_sI (ag_sI (ag_sI ag_rf (by decide)) (by decide)) (by decide)) (by decide)) (by decide)) (by decide)) (GP_ag hG hlen)
      refine z_cntRM hS (stM_ag (RelS_stM hS) aR1 (by decide) (by decide)) (fun k hk => by rw [aR1.2.1 51 (by decide)]; exact hS.2.2.2.2.2.1 k hk) (fun R2 hG2 => ?_)
      obtain ⟨x1, x2, x3, x4, x5, x6, x7⟩ := hG2
      obtain ⟨y1, y2, y3, y4⟩ := x7 _ p t hp (by rw [Nat.zero_add])
      have aR2 : ag [0, 53, 55, 56, 57, 58, 59, 60, 61] [52, 54] (sI R 0 0) R2 := by
        have aS : ag [0, 53, 55, 56, 57, 58, 59, 60, 61] [52, 54] R1 (sI (sI (sI (sI (sI (sI R1 56 a) 57 b) 58 c) 60 (nI (K % (allR (sI R 0 0) m a b c).length))) 59 0) 53 0) := ag_sI (ag_sI (ag_sI (ag_sI (ag_sI (ag_sI ag_rf (by decide)) (by decide)) (by decide)) (by decide)) (by decide)) (by decide)
        refine ag_tr (ag_mono aR1 (by simp) (by simp)) (ag_tr aS ?_)
        refine ⟨fun k hk => x1.1 k (fun q => by simp at q hk; omega), fun b hb => ?_, x1.2.2⟩
        by_cases z : b = 51
        · rw [z]; exact x3
        · exact x1.2.1 b (fun q => by simp at q hb; omega)
      subst e4 e3
      refine ⟨by rw [y2]; exact e13.symm, Rel_mono (Rel_draw h0 ?_ aR2 ⟨p.length, hl, ?_, y1, fun q hq => ?_⟩) (Nat.le_succ i)⟩
      · refine ag_sI ?_ (by decide)
        refine ag_tr (ag_mono (ag_tr aM a2) (by simp) (by simp)) ⟨fun _ _ => rfl, fun b hb => ?_, rfl⟩
        show (if b = 26 then _ else gA M2 b) = _
        rw [if_neg (fun e => hb (by simp [e]))]
      · exact e12
      · show va_cpy (gA M2 25) (gA M2 26) 0 0 8 q = _
        rw [pk_cpy_in (Nat.zero_le q) (by omega), Nat.zero_add, Nat.sub_zero, hpt q hq, y4 q hq]
    · subst e1
      have hz0 : (allR (sI R 0 0) m a b c).length = 0 := by
        rcases Nat.eq_zero_or_pos (allR (sI R 0 0) m a b c).length with z | z
        · exact z
        · exact absurd (show (0 : Int32) < _ from nI_lt (a := 0) z (by omega)) hz
      refine z_areNum (fun q' => absurd q' q) ⟨fun q => absurd q (by decide), fun _ => ⟨fun _ => ?_, fun q => absurd k0 q⟩⟩
      refine z_cntRM hS (RelS_stM hS) hS.2.2.2.2.2.1 (fun R1 hG => ⟨fun q => absurd (by rw [hz0]; rfl) q, fun _ => ⟨rfl, ?_⟩⟩)
      refine Rel_mono (Rel_cr (Rel_cs h0 aM) (ag_tr ?_ (GP_ag hG hlen))) (Nat.le_succ i)
      exact ag_sI (ag_sI (ag_sI (ag_sI (ag_sI (ag_sI ag_rf (by decide)) (by decide)) (by decide)) (by decide)) (by decide)) (by decide)
  · subst e1
    by_cases q : (a < 0 ∨ 240 < a) ∨ (b < 0 ∨ 240 < b) ∨ (c < 0 ∨ 255 < c)
    · exact z_areBad q ⟨fun _ => Nx_same h0, fun q => absurd rfl q⟩
    · exact z_areNum (fun q' => absurd q' q) ⟨fun q => absurd q (by decide), fun _ => ⟨fun q => absurd q k0, fun _ => Nx_same h0⟩⟩
