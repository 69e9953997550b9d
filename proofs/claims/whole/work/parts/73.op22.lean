/-! texts: the reference's parser -/
def opR (c : Nat) : Nat := if c ≤ 9999 then 1 else if c < 10006 then 2 else c - 10003
def vR (c : Nat) : Nat := if c ≤ 9999 then c else if c < 10006 then c - 10000 else 0
def TM (tok pls : Nat → Nat) (N nx : Nat) (M0 : Sg) : Prop := 1 ≤ N ∧ N ≤ 601 ∧ (∀ i, i < N → tk (tok i) (gA M0 4 i) (gJ M0 6 i) ∧ gA M0 5 i = nI (pls i) ∧ tok i ≤ 10017 ∧ pls i ≤ 600) ∧ tok (N - 1) = 10016 ∧ gJ M0 9 = gJ mini 9 ∧ gI M0 16 = nI nx ∧ nx ≤ 1 ∧ gI M0 8 = 0
def MS (N nx cb : Nat) (M0 : Sg) (w pos : Nat) (cs : List Nat) (wt : Nat → Nat → Int32) (M : Sg) : Prop :=
  ag [7, 17, 18] [13, 14, 19, 20, 21] M0 M ∧ gJ M 6 = gJ M0 6 ∧ gI M 7 = nI pos ∧ gI M 17 = nI (cb + cs.length) ∧ gI M 18 = nI w ∧
  (∀ i, i < cs.length → gA M 13 (660 * nx + cb + i) = nI (opR (cs.getD i 0)) ∧ gA M 14 (660 * nx + cb + i) = nI (vR (cs.getD i 0))) ∧
  (∀ k, k < 660 * nx + cb ∨ 660 * nx + 660 ≤ k → gA M 13 k = gA M0 13 k ∧ gA M 14 k = gA M0 14 k) ∧
  (∀ a, 19 ≤ a → a ≤ 21 → ∀ l, l ≤ w → gA M a l = wt a l) ∧ pos < N ∧ w ≤ 5 ∧ cb + cs.length ≤ pos + 16
def MF (N nx cb : Nat) (pls : Nat → Nat) (M0 : Sg) (p k : Nat) (M : Sg) : Prop :=
  ag [7, 8, 17, 18] [13, 14, 19, 20, 21] M0 M ∧ gI M 8 = nI (k + 16 * pls p) ∧ (∃ c, cb ≤ c ∧ c ≤ 620 ∧ gI M 17 = nI c) ∧
  (∀ j, j < 660 * nx + cb ∨ 660 * nx + 660 ≤ j → gA M 13 j = gA M0 13 j ∧ gA M 14 j = gA M0 14 j) ∧ p < N ∧ 1 ≤ k ∧ k ≤ 5
theorem TM_nx {tok pls : Nat → Nat} {N nx pos : Nat} {M0 : Sg} (hT : TM tok pls N nx M0) (h : pos < N) (hk : ¬ tok pos = 10016) : pos + 1 < N := by
  rcases Nat.lt_or_ge (pos + 1) N with z | z
  · exact z
  · exfalso
    refine hk ?_
    rw [show pos = N - 1 by omega]
    exact hT.2.2.2.1
section RefP
variable {tok pls : Nat → Nat} {N nx cb w pos : Nat} {M0 M : Sg} {cs : List Nat} {wt : Nat → Nat → Int32}
theorem ms_8 (hT : TM tok pls N nx M0) (h : MS N nx cb M0 w pos cs wt M) : gI M 8 = 0 := (h.1.1 8 (by decide)).trans hT.2.2.2.2.2.2.2
theorem ms_16 (hT : TM tok pls N nx M0) (h : MS N nx cb M0 w pos cs wt M) : gI M 16 = nI nx := (h.1.1 16 (by decide)).trans hT.2.2.2.2.2.1
theorem ms_tk (hT : TM tok pls N nx M0) (h : MS N nx cb M0 w pos cs wt M) : tk (tok pos) (gA M 4 pos) (gJ M 6 pos) ∧ gA M 5 pos = nI (pls pos) ∧ tok pos ≤ 10017 ∧ pls pos ≤ 600 := by
  rw [h.1.2.1 4 (by decide), h.1.2.1 5 (by decide), h.2.1]
  exact hT.2.2.1 pos h.2.2.2.2.2.2.2.2.1
theorem ms_in (hT : TM tok pls N nx M0) (h : MS N nx cb M0 w pos cs wt M) : vp_in (gI M 7) 602 ∧ (gI M 7).toNatClampNeg = pos := by
  have := hT.2.1
  have := h.2.2.2.2.2.2.2.2.1
  rw [h.2.2.1]
  exact ⟨vp_in_nI (by omega) (by decide), nI_clamp (by omega)⟩
theorem ms_d (h : MS N nx cb M0 w pos cs wt M) : vp_in (gI M 18) 7 ∧ (gI M 18).toNatClampNeg = w := by
  have := h.2.2.2.2.2.2.2.2.2.1
  rw [h.2.2.2.2.1]
  exact ⟨vp_in_nI (by omega) (by decide), nI_clamp (by omega)⟩
theorem m_isSign {c : Nat} {Q : Sg → Int32 → Prop} (hT : TM tok pls N nx M0) (h : MS N nx cb M0 w pos cs wt M) (hc : c ∈ sgs) (h1 : tok pos = sgT (nI c) → Q M 1) (h0 : ¬ tok pos = sgT (nI c) → Q M 0) : wX9_isSign M (nI c) Q := by
  have hb : ∀ c ∈ sgs, c < 2 ^ 31 := by decide
  obtain ⟨i1, i2⟩ := ms_in hT h
  obtain ⟨⟨-, -, -, -, t5⟩, -⟩ := ms_tk hT h
  have e := t5 c hc
  unfold wX9_isSign
  rw [i2, lg_cmp_eq, nI_l (hb c hc)]
  exact ⟨fun q => absurd (ms_8 hT h) q, fun _ => ⟨i1, fun q => h0 (fun z => q (e.mpr z).1), fun q => ⟨i1, fun q2 => h0 (fun z => q2 (e.mpr z).2), fun q2 => h1 (e.mp ⟨q, q2⟩)⟩⟩⟩
theorem m_isWord {k : Nat} {Q : Sg → Int32 → Prop} (hT : TM tok pls N nx M0) (h : MS N nx cb M0 w pos cs wt M) (hk : k < 9) (h1 : tok pos = wcode k → Q M 1) (h0 : ¬ tok pos = wcode k → Q M 0) : wX9_isWord M (nI k) Q := by
  obtain ⟨i1, i2⟩ := ms_in hT h
  obtain ⟨⟨-, -, -, t4, -⟩, -⟩ := ms_tk hT h
  have e := t4 k hk
  unfold wX9_isWord
  rw [i2, lg_cmp_eq, nI_clamp (by omega), h.1.2.2, hT.2.2.2.2.1]
  exact ⟨fun q => absurd (ms_8 hT h) q, fun _ => ⟨i1, fun q => h0 (fun z => q (e.mpr z).1), fun q => ⟨i1, vp_in_nI hk (by decide), fun q2 => h0 (fun z => q2 (e.mpr z).2), fun q2 => h1 (e.mp ⟨q, q2⟩)⟩⟩⟩
theorem m_wrong {k : Nat} {Q : Sg → Prop} (hT : TM tok pls N nx M0) (h : MS N nx cb M0 w pos cs wt M) (hq : Q (sI M 8 (nI (k + 16 * pls pos)))) : wX9_wrong M (nI k) Q := by
  obtain ⟨i1, i2⟩ := ms_in hT h
  obtain ⟨-, t5, -⟩ := ms_tk hT h
  unfold wX9_wrong
  rw [i2, t5, show (16 : Int32) = nI 16 from rfl, pk_mul, nI_add]
  exact ⟨fun q => absurd (ms_8 hT h) q, fun _ => ⟨i1, fun M1 e1 => by rw [e1]; exact hq⟩⟩
theorem ms_mf {k : Nat} (hT : TM tok pls N nx M0) (h : MS N nx cb M0 w pos cs wt M) (h1 : 1 ≤ k) (h5 : k ≤ 5) : MF N nx cb pls M0 pos k (sI M 8 (nI (k + 16 * pls pos))) := by
  obtain ⟨a, -, -, h17, -, -, hf, -, hn, -, hb⟩ := h
  have := hT.2.1
  exact ⟨ag_sI (ag_mono a (by simp) (by simp)) (by decide), rfl, ⟨cb + cs.length, by omega, by omega, h17⟩, hf, hn, h1, h5⟩
/-- one code more -/
def emM (M : Sg) (o v : Int32) : Sg := sI (sA (sA M 13 (((660 : Int32) * gI M 16 + gI M 17).toNatClampNeg) o) 14 (((660 : Int32) * gI M 16 + gI M 17).toNatClampNeg) v) 17 (gI M 17 + 1)
theorem ms_ix (hT : TM tok pls N nx M0) (h : MS N nx cb M0 w pos cs wt M) : (660 : Int32) * gI M 16 + gI M 17 = nI (660 * nx + cb + cs.length) ∧ 660 * nx + cb + cs.length < 660 * nx + 660 ∧ 660 * nx + cb + cs.length < 1320 := by
  have := hT.2.1
  have := hT.2.2.2.2.2.2.1
  have := h.2.2.2.2.2.2.2.2.1
  have := h.2.2.2.2.2.2.2.2.2.2
  rw [ms_16 hT h, h.2.2.2.1, show (660 : Int32) = nI 660 from rfl, pk_mul, nI_add, Nat.add_assoc]
  exact ⟨rfl, by omega, by omega⟩
theorem m_emit {o v : Int32} {Q : Sg → Prop} (hT : TM tok pls N nx M0) (h : MS N nx cb M0 w pos cs wt M) (hq : Q (emM M o v)) : wX9_emit M o v Q := by
  obtain ⟨e, e1, e2⟩ := ms_ix hT h
  have hin : vp_in ((660 : Int32) * gI M 16 + gI M 17) 1320 := by rw [e]; exact vp_in_nI e2 (by decide)
  refine ⟨hin, fun M1 e1 => ?_⟩
  subst e1
  refine ⟨hin, fun M2 e2 M3 e3 => ?_⟩
  subst e2 e3
  exact hq
theorem ms_em {c : Nat} {v : Int32} (hT : TM tok pls N nx M0) (h : MS N nx cb M0 w pos cs wt M) (hv : v = nI (vR c)) (hb : cb + cs.length + 1 ≤ pos + 16) : MS N nx cb M0 w pos (cs ++ [c]) wt (emM M (nI (opR c)) v) := by
  obtain ⟨e, e1, e2⟩ := ms_ix hT h
  obtain ⟨a, h6, h7, h17, h18, hc, hf, hw, hn, hw5, hbb⟩ := h
  unfold emM
  rw [e, nI_clamp (by omega), h17, nI_1]
  refine ⟨ag_sI (ag_sA (ag_sA a (by decide)) (by decide)) (by decide), h6, h7, by rw [List.length_append, List.length_singleton, ← Nat.add_assoc]; rfl, h18, fun i hi => ?_, fun k hk => ?_, fun b hb1 hb2 l hl => ?_, hn, hw5, by rw [List.length_append, List.length_singleton]; omega⟩
  · rw [List.length_append, List.length_singleton] at hi
    show upd (gA M 13) _ _ _ = _ ∧ upd (gA M 14) _ _ _ = _
    rw [z_getDp]
    by_cases z : i < cs.length
    · rw [if_pos z, pk_un (by omega), pk_un (by omega)]; exact hc i z
    · have ei : i = cs.length := by omega
      rw [if_neg z, if_pos ei, ei, pk_us, pk_us]
      exact ⟨rfl, hv⟩
  · show upd (gA M 13) _ _ _ = _ ∧ upd (gA M 14) _ _ _ = _
    rw [pk_un (by omega), pk_un (by omega)]
    exact hf k hk
  · rw [gA_sI, gA_sA, if_neg (by omega), gA_sA, if_neg (by omega)]
    exact hw b hb1 hb2 l hl
def wtu (wt : Nat → Nat → Int32) (a l : Nat) (v : Int32) : Nat → Nat → Int32 := fun b k => if b = a ∧ k = l then v else wt b k
theorem wtu_s {a l : Nat} {v : Int32} : wtu wt a l v a l = v := if_pos ⟨rfl, rfl⟩
theorem wtu_n {a b l k : Nat} {v : Int32} (h : b ≠ a) : wtu wt a l v b k = wt b k := if_neg (fun q => h q.1)
theorem ms_set {a : Nat} {v : Int32} (h : MS N nx cb M0 w pos cs wt M) (h1 : 19 ≤ a) (h2 : a ≤ 21) : MS N nx cb M0 w pos cs (wtu wt a w v) (sA M a w v) := by
  obtain ⟨ag0, h6, h7, h17, h18, hc, hf, hw, hn, hw5, hbb⟩ := h
  have e13 : gA (sA M a w v) 13 = gA M 13 := by rw [gA_sA, if_neg (by omega)]
  have e14 : gA (sA M a w v) 14 = gA M 14 := by rw [gA_sA, if_neg (by omega)]
  refine ⟨ag_sA ag0 (by simp; omega), h6, h7, h17, h18, by rw [e13, e14]; exact hc, by rw [e13, e14]; exact hf, fun b hb1 hb2 l hl => ?_, hn, hw5, hbb⟩
  unfold wtu
  rw [gA_sA]
  by_cases z : b = a
  · subst z
    rw [if_pos rfl]
    by_cases y : l = w
    · rw [y, pk_us, if_pos ⟨rfl, rfl⟩]
    · rw [pk_un y, if_neg (fun q => y q.2)]; exact hw b hb1 hb2 l hl
  · rw [if_neg z, if_neg (fun q => z q.1)]; exact hw b hb1 hb2 l hl
theorem ms_at {p : Nat} {v : Int32} (h : MS N nx cb M0 w pos cs wt M) (hv : v = nI p) (hp : p < N) (hb : cb + cs.length ≤ p + 16) : MS N nx cb M0 w p cs wt (sI M 7 v) := by
  obtain ⟨ag0, h6, h7, h17, h18, hc, hf, hw, hn, hw5, hbb⟩ := h
  exact ⟨ag_sI ag0 (by decide), h6, hv, h17, h18, hc, hf, hw, hp, hw5, hb⟩
theorem ms_wt {wt' : Nat → Nat → Int32} (h : MS N nx cb M0 w pos cs wt M) (he : ∀ a, 19 ≤ a → a ≤ 21 → ∀ l, l ≤ w → wt' a l = wt a l) : MS N nx cb M0 w pos cs wt' M := by
  obtain ⟨ag0, h6, h7, h17, h18, hc, hf, hw, hn, hw5, hbb⟩ := h
  exact ⟨ag0, h6, h7, h17, h18, hc, hf, fun a h1 h2 l hl => by rw [he a h1 h2 l hl]; exact hw a h1 h2 l hl, hn, hw5, hbb⟩
theorem ms_dn {w' : Nat} {v : Int32} (h : MS N nx cb M0 w pos cs wt M) (hw : w' ≤ w) (hv : v = nI w') : MS N nx cb M0 w' pos cs wt (sI M 18 v) := by
  obtain ⟨ag0, h6, h7, h17, h18, hc, hf, hwt, hn, hw5, hbb⟩ := h
  exact ⟨ag_sI ag0 (by decide), h6, h7, h17, hv, hc, hf, fun a h1 h2 l hl => hwt a h1 h2 l (by omega), hn, by omega, hbb⟩
/-! part -/
theorem m_partWord {Q : Sg → Int32 → Prop} (hT : TM tok pls N nx M0) (h : MS N nx cb M0 w pos cs wt M) (h1 : ∀ f, f < 6 → tok pos = 10000 + f → Q M (nI f)) (h0 : ¬ (10000 ≤ tok pos ∧ tok pos ≤ 10005) → Q M (-1)) : wX9_partWord M Q := by
  have loop : ∀ (k j : Nat), j + k = 6 → (∀ i, i < j → tok pos ≠ 10000 + i) → vX9_partWord_2 Q (k + 1) M (nI j) := by
    intro k
    induction k with
    | zero =>
      intro j hj hn
      refine ⟨fun _ => h0 (fun q => hn (tok pos - 10000) (by omega) (by omega)), fun c => absurd (by rw [show j = 6 by omega]; decide) c⟩
    | succ k ih =>
      intro j hj hn
      refine ⟨fun c => absurd c (by rw [show (6 : Int32) = nI 6 from rfl]; exact nI_ge (by omega) (by decide)), fun _ => ?_⟩
      rw [show (3 : Int32) = nI 3 from rfl, nI_add]
      have ew : wcode (3 + j) = 10000 + j := by
        unfold wcode
        rw [if_neg (by omega), if_neg (by omega), if_neg (by omega)]
        omega
      refine m_isWord hT h (by omega) (fun q => ⟨fun c => absurd c (by decide), fun _ => h1 j (by omega) (by rw [q, ew])⟩) (fun q => ⟨fun _ y ey => ?_, fun c => absurd rfl c⟩)
      rw [ey, nI_1]
      refine ih (j + 1) (by omega) (fun i hi => ?_)
      by_cases z : i = j
      · rw [z]; exact fun y => q (by rw [y, ew])
      · exact hn i (by omega)
  exact ⟨7, loop 6 0 (by omega) (fun i hi => absurd hi (Nat.not_lt_zero i))⟩
def ptM (M : Sg) (o v : Int32) : Sg := sI (emM (sI M 7 (gI M 7 + 0)) o v) 7 (gI (emM (sI M 7 (gI M 7 + 0)) o v) 7 + 1)
theorem ms_0 (h : MS N nx cb M0 w pos cs wt M) : MS N nx cb M0 w pos cs wt (sI M 7 (gI M 7 + 0)) := ms_at h (by rw [h.2.2.1, show (0 : Int32) = nI 0 from rfl, nI_add]; rfl) h.2.2.2.2.2.2.2.2.1 h.2.2.2.2.2.2.2.2.2.2
theorem ms_pt {c : Nat} {v : Int32} (hT : TM tok pls N nx M0) (h : MS N nx cb M0 w pos cs wt M) (hv : v = nI (vR c)) (hn : pos + 1 < N) : MS N nx cb M0 w (pos + 1) (cs ++ [c]) wt (ptM M (nI (opR c)) v) := by
  have hb := h.2.2.2.2.2.2.2.2.2.2
  have h0 := ms_0 h
  obtain ⟨a1, b1, c1, d1, e1, f1, g1, i1, j1, k1, l1⟩ := h0
  have h1 : MS N nx cb M0 w (pos + 1) cs wt (sI (sI M 7 (gI M 7 + 0)) 7 (nI (pos + 1))) := ms_at (ms_0 h) rfl hn (by omega)
  have h2 := ms_em (c := c) (v := v) hT h1 hv (by omega)
  have e : ptM M (nI (opR c)) v = emM (sI (sI M 7 (gI M 7 + 0)) 7 (nI (pos + 1))) (nI (opR c)) v := by
    have e7 : gI (emM (sI M 7 (gI M 7 + 0)) (nI (opR c)) v) 7 + 1 = nI (pos + 1) := by
      show gI (sI M 7 (gI M 7 + 0)) 7 + 1 = _
      rw [c1, nI_1]
    unfold ptM
    rw [e7]
    refine Prod.ext (funext fun j => ?_) rfl
    show (if j = 7 then nI (pos + 1) else if j = 17 then _ else if j = 7 then _ else _) = (if j = 17 then _ else if j = 7 then nI (pos + 1) else if j = 7 then _ else _)
    by_cases z : j = 7
    · subst z; rfl
    · simp only [if_neg z]; rfl
  rw [e]
  exact h2
def opM (M : Sg) : Sg := sA (sA (sA (sI (sI M 7 (gI M 7 + 1)) 18 (gI (sI M 7 (gI M 7 + 1)) 18 + 1)) 19 ((gI (sI M 7 (gI M 7 + 1)) 18 + 1).toNatClampNeg) 0) 20 ((gI (sI M 7 (gI M 7 + 1)) 18 + 1).toNatClampNeg) 0) 21 ((gI (sI M 7 (gI M 7 + 1)) 18 + 1).toNatClampNeg) 0
theorem ms_op (h : MS N nx cb M0 w pos cs wt M) (hn : pos + 1 < N) (hw : w < 5) : MS N nx cb M0 (w + 1) (pos + 1) cs (fun a l => if l = w + 1 then 0 else wt a l) (opM M) := by
  obtain ⟨ag0, h6, h7, h17, h18, hc, hf, hwt, hn0, hw5, hbb⟩ := h
  have e : gI (sI M 7 (gI M 7 + 1)) 18 + 1 = nI (w + 1) := by
    show gI M 18 + 1 = _
    rw [h18, nI_1]
  unfold opM
  rw [e, nI_clamp (by omega), h7, nI_1]
  refine ⟨ag_sA (ag_sA (ag_sA (ag_sI (ag_sI ag0 (by decide)) (by decide)) (by decide)) (by decide)) (by decide), h6, rfl, h17, rfl, hc, hf, fun a h1 h2 l hl => ?_, hn, by omega, by omega⟩
  have e3 : a = 19 ∨ a = 20 ∨ a = 21 := by omega
  show _ = (if l = w + 1 then 0 else wt a l)
  by_cases z : l = w + 1
  · rw [if_pos z, z]
    rcases e3 with y | y | y
    · subst y; show upd (gA M 19) (w + 1) 0 (w + 1) = 0; exact pk_us
    · subst y; show upd (gA M 20) (w + 1) 0 (w + 1) = 0; exact pk_us
    · subst y; show upd (gA M 21) (w + 1) 0 (w + 1) = 0; exact pk_us
  · rw [if_neg z, ← hwt a h1 h2 l (by omega)]
    rcases e3 with y | y | y
    · subst y; show upd (gA M 19) (w + 1) 0 l = _; exact pk_un z
    · subst y; show upd (gA M 20) (w + 1) 0 l = _; exact pk_un z
    · subst y; show upd (gA M 21) (w + 1) 0 l = _; exact pk_un z
theorem m_59bad {x1 : Int32} {k : Nat} {Q : Sg → Int32 → Prop} {M' : Sg} (h8 : gI M' 8 = nI (k + 16 * pls pos)) (hk : 1 ≤ k) (hk5 : k ≤ 5) (hp : pls pos ≤ 600) (hq : Q M' 0) : vX9_part_59 Q M' x1 := ⟨fun c => absurd c (by rw [h8]; exact nI_nle (by omega) (by omega)), fun _ => hq⟩
theorem sg40 : sgT (nI 40) = 10013 := by decide
theorem m_46 {x1 : Int32} {Q : Sg → Int32 → Prop} (hT : TM tok pls N nx M0) (h : MS N nx cb M0 w pos cs wt M) (h1 : w < 5 → vX9_part_59 Q M x1) (h0 : ¬ w < 5 → Q (sI M 8 (nI (5 + 16 * pls pos))) 0) : vX9_part_46 Q M x1 := by
  have hw5 := h.2.2.2.2.2.2.2.2.2.1
  unfold vX9_part_46
  rw [h.2.2.2.2.1, show (5 : Int32) = nI 5 from rfl, nI_eq (by omega) (by omega)]
  refine ⟨fun c => h1 (by omega), fun c => m_wrong (k := 5) hT h ?_⟩
  exact m_59bad (pos := pos) (pls := pls) (k := 5) rfl (by decide) (by decide) (ms_tk hT h).2.2.2 (h0 (by omega))
theorem m_part {Q : Sg → Int32 → Prop} (hT : TM tok pls N nx M0) (h : MS N nx cb M0 w pos cs wt M) (h1 : tok pos ≤ 10005 → w < 5 → Q (ptM M (nI (opR (tok pos))) (nI (vR (tok pos)))) 0) (h2 : tok pos = 10013 → w < 5 → Q (opM M) 1) (h3 : (tok pos ≤ 10005 ∨ tok pos = 10013) → ¬ w < 5 → Q (sI M 8 (nI (5 + 16 * pls pos))) 0) (h4 : ¬ (tok pos ≤ 10005 ∨ tok pos = 10013) → Q (sI M 8 (nI (1 + 16 * pls pos))) 0) : wX9_part M Q := by
  obtain ⟨i1, i2⟩ := ms_in hT h
  obtain ⟨⟨t1, t2, t3, t4, t5⟩, t6, t7, t8⟩ := ms_tk hT h
  have h8 := ms_8 hT h
  have hm0 := ms_0 h
  -- behind the tests
  have num : ∀ r : Int32, w < 5 → tok pos ≤ 10005 → ((0 ≤ r ∧ ∃ f, f < 6 ∧ tok pos = 10000 + f ∧ r = nI f) ∨ (¬ 0 ≤ r ∧ tok pos ≤ 9999)) → vX9_part_59 Q M r := by
    intro r hw ht hr
    refine ⟨fun _ => ?_, fun c => absurd (by rw [h8]; decide) c⟩
    refine m_isSign (c := 40) hT h (by decide) (fun q => absurd (q.trans sg40) (by omega)) (fun _ => ⟨fun _ M1 e1 => ⟨rfl, ?_⟩, fun c => absurd rfl c⟩)
    subst e1
    refine ⟨fun _ => ?_, fun c => absurd rfl c⟩
    rcases hr with ⟨r0, f, f1, f2, f3⟩ | ⟨r0, f2⟩
    · refine ⟨fun _ => ⟨fun _ => m_emit hT hm0 (fun M3 e3 => ?_), fun c => absurd r0 c⟩, fun c => absurd r0 c⟩
      have eo : opR (tok pos) = 2 := by unfold opR; rw [if_neg (by omega), if_pos (by omega)]
      have ev : vR (tok pos) = f := by unfold vR; rw [if_neg (by omega), if_pos (by omega)]; omega
      have := h1 ht hw
      rw [eo, ev] at this
      subst e3
      rw [f3]
      exact this
    · refine ⟨fun c => absurd c r0, fun _ => ⟨fun c => absurd c r0, fun _ => ?_⟩⟩
      obtain ⟨j1, j2⟩ := ms_in hT hm0
      refine ⟨j1, m_emit hT hm0 (fun M3 e3 => ?_)⟩
      have eo : opR (tok pos) = 1 := by unfold opR; rw [if_pos f2]
      have ev : vR (tok pos) = tok pos := by unfold vR; rw [if_pos f2]
      have := h1 ht hw
      rw [eo, ev] at this
      subst e3
      rw [j2, show gJ (sI M 7 (gI M 7 + 0)) 6 pos = lN (tok pos) from t2 f2, lN_i]
      exact this
  have opn : ∀ r : Int32, w < 5 → tok pos = 10013 → vX9_part_59 Q M r := by
    intro r hw ht
    refine ⟨fun _ => ?_, fun c => absurd (by rw [h8]; decide) c⟩
    refine m_isSign (c := 40) hT h (by decide) (fun _ => ⟨fun c => absurd c (by decide), fun _ M1 e1 => ⟨rfl, fun c => absurd c (by decide), fun _ M3 e3 => ?_⟩⟩) (fun q => absurd (ht.trans sg40.symm) q)
    subst e1 e3
    have hw7 : vp_in (gI (sI M 7 (gI M 7 + 1)) 18 + 1) 7 := by
      show vp_in (gI M 18 + 1) 7
      rw [h.2.2.2.2.1, nI_1]
      exact vp_in_nI (by omega) (by decide)
    refine ⟨hw7, fun Ma ea => ?_⟩
    subst ea
    refine ⟨hw7, fun Mb eb => ?_⟩
    subst eb
    refine ⟨hw7, fun Mc ec => ?_⟩
    subst ec
    exact h2 ht hw
  have h46 : ∀ r : Int32, (tok pos ≤ 10005 ∨ tok pos = 10013) → (tok pos ≤ 10005 → ((0 ≤ r ∧ ∃ f, f < 6 ∧ tok pos = 10000 + f ∧ r = nI f) ∨ (¬ 0 ≤ r ∧ tok pos ≤ 9999))) → vX9_part_46 Q M r := fun r ht hr =>
    m_46 hT h (fun hw => ht.elim (fun z => num r hw z (hr z)) (fun z => opn r hw z)) (fun hw => h3 ht hw)
  refine m_partWord hT h (fun f hf ef => ⟨fun c => absurd h8 c, fun _ => ⟨i1, ?_⟩⟩) (fun hno => ⟨fun c => absurd h8 c, fun _ => ⟨i1, ?_⟩⟩)
  · rw [i2]
    have ok := h46 (nI f) (Or.inl (by omega)) (fun _ => Or.inl ⟨nI_pos' (by omega), f, hf, ef, rfl⟩)
    refine ⟨fun c => ok, fun _ => m_isSign (c := 40) hT h (by decide) (fun q => absurd (q.trans sg40) (by omega)) (fun _ => ⟨fun c => absurd rfl c, fun _ => ⟨fun _ => ok, fun c => absurd (nI_pos' (by omega)) c⟩⟩)⟩
  · rw [i2]
    refine ⟨fun c => h46 (-1) (Or.inl (by have := t1.mp c; omega)) (fun _ => Or.inr ⟨by decide, t1.mp c⟩), fun c => m_isSign (c := 40) hT h (by decide) (fun q => ⟨fun _ => h46 (-1) (Or.inr (q.trans sg40)) (fun z => absurd (q.trans sg40) (by omega)), fun c => absurd c (by decide)⟩) (fun q => ⟨fun c => absurd rfl c, fun _ => ⟨fun c => absurd c (by decide), fun _ => m_wrong (k := 1) hT h ?_⟩⟩)⟩
    have n9 : ¬ tok pos ≤ 9999 := fun z => c (t1.mpr z)
    exact m_59bad (pos := pos) (pls := pls) (k := 1) rfl (by decide) (by decide) t8 (h4 (fun z => z.elim (fun z => hno ⟨by omega, z⟩) (fun z => q (z.trans sg40.symm))))
end RefP
