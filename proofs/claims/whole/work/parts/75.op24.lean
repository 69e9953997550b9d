/-! texts: lines, on the reference's side -/
theorem take_s {ls : List (Nat × List Nat)} {i : Nat} (h : i < ls.length) : ls.take (i + 1) = ls.take i ++ [ls.getD i (0, [])] := by
  rw [List.take_succ_eq_append_getElem h, List.getD_eq_getElem?_getD, List.getElem?_eq_getElem h]
  rfl
theorem cat_take {ls : List (Nat × List Nat)} {i : Nat} (h : i < ls.length) : (cat (ls.take (i + 1))).length = (cat (ls.take i)).length + (ls.getD i (0, [])).2.length := by
  rw [take_s h, cat_s, List.length_append]
theorem cat_app (a b : List (Nat × List Nat)) : cat (a ++ b) = cat a ++ cat b := List.flatMap_append
theorem cat_le (ls : List (Nat × List Nat)) (i : Nat) : (cat (ls.take i)).length ≤ (cat ls).length := by
  have : cat ls = cat (ls.take i) ++ cat (ls.drop i) := by rw [← cat_app, List.take_append_drop]
  rw [this, List.length_append]
  omega
def MB (tok pls : Nat → Nat) (N pos : Nat) (M : Sg) : Prop := pos < N ∧ N ≤ 601 ∧ gI M 7 = nI pos ∧ gI M 8 = 0 ∧ tk (tok pos) (gA M 4 pos) (gJ M 6 pos) ∧ gA M 5 pos = nI (pls pos) ∧ pls pos ≤ 600 ∧ gJ M 9 = gJ mini 9
section NB
variable {tok pls : Nat → Nat} {N pos : Nat} {M : Sg}
theorem mb_in (h : MB tok pls N pos M) : vp_in (gI M 7) 602 ∧ (gI M 7).toNatClampNeg = pos := by
  obtain ⟨h1, h2, h3, -⟩ := h
  rw [h3]
  exact ⟨vp_in_nI (by omega) (by decide), nI_clamp (by omega)⟩
theorem n_isWord {k : Nat} {Q : Sg → Int32 → Prop} (h : MB tok pls N pos M) (hk : k < 9) (h1 : tok pos = wcode k → Q M 1) (h0 : ¬ tok pos = wcode k → Q M 0) : wX9_isWord M (nI k) Q := by
  obtain ⟨i1, i2⟩ := mb_in h
  obtain ⟨-, -, -, h8, ⟨-, -, -, t4, -⟩, -, -, h9⟩ := h
  have e := t4 k hk
  unfold wX9_isWord
  rw [i2, lg_cmp_eq, nI_clamp (by omega), h9]
  exact ⟨fun q => absurd h8 q, fun _ => ⟨i1, fun q => h0 (fun z => q (e.mpr z).1), fun q => ⟨i1, vp_in_nI hk (by decide), fun q2 => h0 (fun z => q2 (e.mpr z).2), fun q2 => h1 (e.mp ⟨q, q2⟩)⟩⟩⟩
theorem n_wrong {k : Nat} {Q : Sg → Prop} (h : MB tok pls N pos M) (hq : Q (sI M 8 (nI (k + 16 * pls pos)))) : wX9_wrong M (nI k) Q := by
  obtain ⟨i1, i2⟩ := mb_in h
  obtain ⟨-, -, -, h8, -, t5, -⟩ := h
  unfold wX9_wrong
  rw [i2, t5, show (16 : Int32) = nI 16 from rfl, pk_mul, nI_add]
  exact ⟨fun q => absurd h8 q, fun _ => ⟨i1, fun M1 e1 => by rw [e1]; exact hq⟩⟩
end NB
def fr11 (nx : Nat) (M0 M : Sg) : Prop := ∀ k, k < 16 * nx ∨ 16 * nx + 16 ≤ k → gA M 11 k = gA M0 11 k ∧ gA M 12 k = gA M0 12 k
def fr13 (nx : Nat) (M0 M : Sg) : Prop := ∀ k, k < 660 * nx ∨ 660 * nx + 660 ≤ k → gA M 13 k = gA M0 13 k ∧ gA M 14 k = gA M0 14 k
def fr10 (nx : Nat) (M0 M : Sg) : Prop := ∀ j, j ≠ nx → gA M 10 j = gA M0 10 j
/-- one line as it lies on the reference's side -/
def lnR (nx : Nat) (ls : List (Nat × List Nat)) (M : Sg) (i : Nat) : Prop := gA M 11 (16 * nx + i) = nI (ls.getD i (0, [])).1 ∧ gA M 12 (16 * nx + i) = nI (660 * nx + (cat (ls.take i)).length + i) ∧
  (∀ j, j < (ls.getD i (0, [])).2.length → gA M 13 (660 * nx + (cat (ls.take i)).length + i + j) = nI (opR ((ls.getD i (0, [])).2.getD j 0)) ∧ gA M 14 (660 * nx + (cat (ls.take i)).length + i + j) = nI (vR ((ls.getD i (0, [])).2.getD j 0))) ∧ gA M 13 (660 * nx + (cat (ls.take (i + 1))).length + i) = 0
def RLn (N nx : Nat) (M0 : Sg) (pos : Nat) (ls : List (Nat × List Nat)) (M : Sg) : Prop :=
  ag [7, 17, 18] [10, 11, 12, 13, 14, 19, 20, 21] M0 M ∧ gJ M 6 = gJ M0 6 ∧ gI M 7 = nI pos ∧ gI M 17 = nI ((cat ls).length + ls.length) ∧ gA M 10 nx = nI ls.length ∧ fr10 nx M0 M ∧ fr11 nx M0 M ∧ fr13 nx M0 M ∧ (∀ i, i < ls.length → lnR nx ls M i) ∧ (cat ls).length ≤ pos ∧ pos < N ∧ ls.length ≤ 16
def RF (N nx : Nat) (pls : Nat → Nat) (M0 : Sg) (p k : Nat) (M : Sg) : Prop := ag [7, 8, 17, 18] [10, 11, 12, 13, 14, 19, 20, 21] M0 M ∧ gI M 8 = nI (k + 16 * pls p) ∧ fr10 nx M0 M ∧ fr11 nx M0 M ∧ fr13 nx M0 M ∧ p < N ∧ 1 ≤ k ∧ k ≤ 5
theorem TM_ag {tok pls : Nat → Nat} {N nx : Nat} {M0 M : Sg} {I A : List Nat} (h : TM tok pls N nx M0) (a : ag I A M0 M) (h6 : gJ M 6 = gJ M0 6) (a4 : 4 ∉ A) (a5 : 5 ∉ A) (i16 : 16 ∉ I) (i8 : 8 ∉ I) : TM tok pls N nx M := ⟨h.1, h.2.1, fun i hi => by rw [a.2.1 4 a4, a.2.1 5 a5, h6]; exact h.2.2.1 i hi, h.2.2.2.1, a.2.2.trans h.2.2.2.2.1, (a.1 16 i16).trans h.2.2.2.2.2.1, h.2.2.2.2.2.2.1, (a.1 8 i8).trans h.2.2.2.2.2.2.2⟩
theorem TM_MB {tok pls : Nat → Nat} {N nx pos : Nat} {M : Sg} (h : TM tok pls N nx M) (h7 : gI M 7 = nI pos) (hn : pos < N) : MB tok pls N pos M := ⟨hn, h.2.1, h7, h.2.2.2.2.2.2.2, (h.2.2.1 pos hn).1, (h.2.2.1 pos hn).2.1, (h.2.2.1 pos hn).2.2.2, h.2.2.2.2.1⟩
section LineB
variable {tok pls : Nat → Nat} {N nx : Nat} {M0 M : Sg} {Q : Sg → Prop}
theorem rf_ne {p k : Nat} (hT : TM tok pls N nx M0) (hp : p < N) (hk : 1 ≤ k) (hk5 : k ≤ 5) : ¬ nI (k + 16 * pls p) = 0 ∧ ¬ nI (k + 16 * pls p) ≤ 0 := by
  have := (hT.2.2.1 p hp).2.2.2
  exact ⟨nI_ne0 (by omega) (by omega), nI_nle (by omega) (by omega)⟩
/-- a line's end behind a fault -/
theorem l219_bad {p k : Nat} (hT : TM tok pls N nx M0) (h : RF N nx pls M0 p k M) (hc : ∃ c, c ≤ 620 ∧ gI M 17 = nI c) (hq : ∀ M', RF N nx pls M0 p k M' → Q M') : vX9_line_219 Q M := by
  obtain ⟨a, h8, h10, h11, h13, hp, hk, hk5⟩ := id h
  obtain ⟨c, c1, c2⟩ := hc
  have hne := (rf_ne hT hp hk hk5).1
  have hnx : nx ≤ 1 := hT.2.2.2.2.2.2.1
  have h16 : gI M 16 = nI nx := (a.1 16 (by decide)).trans hT.2.2.2.2.2.1
  have ei : (660 : Int32) * gI M 16 + gI M 17 = nI (660 * nx + c) := by rw [h16, c2, show (660 : Int32) = nI 660 from rfl, pk_mul, nI_add]
  have hin : vp_in ((660 : Int32) * gI M 16 + gI M 17) 1320 := by rw [ei]; exact vp_in_nI (by omega) (by decide)
  refine ⟨hin, fun M1 e1 => ?_⟩
  have i16 : gI M1 16 = gI M 16 := by rw [e1]; rfl
  have i17 : gI M1 17 = gI M 17 := by rw [e1]; rfl
  rw [i16, i17]
  refine ⟨hin, fun M2 e2 M3 e3 => ?_⟩
  have k8 : ¬ gI M3 8 = 0 := by rw [e3, e2, e1]; show ¬ gI M 8 = 0; rw [h8]; exact hne
  have k16 : gI M3 16 = nI nx := by rw [e3, e2, e1]; exact h16
  have hn2 : vp_in (nI nx) 2 := vp_in_nI (by omega) (by decide)
  refine ⟨fun _ => ⟨fun _ => ⟨fun _ => ?_, fun q => absurd q k8⟩, fun q => absurd rfl q⟩, fun q => absurd q k8⟩
  show vp_in (gI M3 16) 2 ∧ vp_in (gI M3 16) 2 ∧ ∀ (M_5 : Sg), M_5 = sA M3 10 (gI M3 16).toNatClampNeg (gA M3 10 (gI M3 16).toNatClampNeg + 1) → Q M_5
  rw [k16, nI_clamp (by omega)]
  refine ⟨hn2, hn2, fun M5 e5 => hq M5 ?_⟩
  rw [ei, nI_clamp (by omega)] at e1 e2
  subst e1 e2 e3 e5
  refine ⟨ag_sA (ag_sI (ag_sA (ag_sA a (by decide)) (by decide)) (by decide)) (by decide), h8, fun j hj => ?_, h11, fun j hj => ?_, hp, hk, hk5⟩
  · show upd (gA M 10) nx _ j = _
    rw [pk_un hj]
    exact h10 j hj
  · show upd (gA M 13) (660 * nx + c) 0 j = _ ∧ upd (gA M 14) (660 * nx + c) 0 j = _
    rw [pk_un (by omega), pk_un (by omega)]
    exact h13 j hj
theorem l185_bad {p k : Nat} (hT : TM tok pls N nx M0) (h : RF N nx pls M0 p k M) (hc : ∃ c, c ≤ 620 ∧ gI M 17 = nI c) (hq : ∀ M', RF N nx pls M0 p k M' → Q M') : ∃ f, vX9_line_185 Q f M 1 :=
  ⟨1, fun c => absurd c (by decide), fun _ => ⟨fun _ => l219_bad hT h hc hq, fun q => absurd (by rw [← h.2.1]; exact q) (rf_ne hT h.2.2.2.2.2.1 h.2.2.2.2.2.2.1 h.2.2.2.2.2.2.2).1⟩⟩
/-- the tail of 139: where the codes begin, the first level is opened -/
theorem l139_tail {x : Nat} {P : Sg → Prop} (hx : x < 32) (hq : P (sA (sA (sA (sI (sA M 12 x ((660 : Int32) * gI M 16 + gI M 17)) 18 0) 19 0 0) 20 0 0) 21 0 0)) : vp_in (nI x) 32 ∧ (∀ (M_5 : Sg), M_5 = sA M 12 (nI x).toNatClampNeg (((660 : Int32) * (gI M 16)) + (gI M 17)) → (∀ (M_6 : Sg), M_6 = sI M_5 18 (0 : Int32) → (wX9_opens M_6 P))) := by
  refine ⟨vp_in_nI hx (by decide), fun M5 e5 M6 e6 => ?_⟩
  rw [nI_clamp (by omega)] at e5
  subst e5 e6
  have h7 : vp_in (0 : Int32) 7 := vp_in_nI (n := 0) (by decide) (by decide)
  refine ⟨h7, fun Ma ea => ?_⟩
  subst ea
  refine ⟨h7, fun Mb eb => ?_⟩
  subst eb
  refine ⟨h7, fun Mc ec => ?_⟩
  subst ec
  exact hq
theorem rf_tail {p k x : Nat} {v : Int32} (h : RF N nx pls M0 p k M) (hx : 16 * nx ≤ x) (hx2 : x < 16 * nx + 16) : RF N nx pls M0 p k (sA (sA (sA (sI (sA M 12 x v) 18 0) 19 0 0) 20 0 0) 21 0 0) := by
  obtain ⟨a, h8, h10, h11, h13, hr⟩ := h
  refine ⟨ag_sA (ag_sA (ag_sA (ag_sI (ag_sA a (by decide)) (by decide)) (by decide)) (by decide)) (by decide), h8, h10, fun j hj => ?_, h13, hr⟩
  show gA M 11 j = _ ∧ upd (gA M 12) x v j = _
  rw [pk_un (by omega)]
  exact h11 j hj
theorem rf_11 {p k x : Nat} {v : Int32} (h : RF N nx pls M0 p k M) (hx : 16 * nx ≤ x) (hx2 : x < 16 * nx + 16) : RF N nx pls M0 p k (sA M 11 x v) := by
  obtain ⟨a, h8, h10, h11, h13, hr⟩ := h
  refine ⟨ag_sA a (by decide), h8, h10, fun j hj => ?_, h13, hr⟩
  show upd (gA M 11) x v j = _ ∧ gA M 12 j = _
  rw [pk_un (by omega)]
  exact h11 j hj
theorem rf_7 {p k : Nat} {v : Int32} (h : RF N nx pls M0 p k M) : RF N nx pls M0 p k (sI M 7 v) := ⟨ag_sI h.1 (by decide), h.2⟩
/-- 139 behind a fault -/
theorem l139_bad {p k x : Nat} {s0 : Int32} (hT : TM tok pls N nx M0) (h : RF N nx pls M0 p k M) (hx : 16 * nx ≤ x) (hx2 : x < 16 * nx + 16) (hc : ∃ c, c ≤ 620 ∧ gI M 17 = nI c) (hq : ∀ M', RF N nx pls M0 p k M' → Q M') : vX9_line_139 Q M (nI x) s0 (nI x) := by
  have hnx : nx ≤ 1 := hT.2.2.2.2.2.2.1
  have hne := (rf_ne hT h.2.2.2.2.2.1 h.2.2.2.2.2.2.1 h.2.2.2.2.2.2.2).1
  refine ⟨vp_in_nI (by omega) (by decide), fun M1 e1 M2 e2 => ?_⟩
  rw [nI_clamp (by omega)] at e1
  have h2 : RF N nx pls M0 p k M2 := by rw [e2, e1]; exact rf_7 (rf_11 h hx hx2)
  have c2 : ∃ c, c ≤ 620 ∧ gI M2 17 = nI c := by rw [e2, e1]; exact hc
  have k8 : ¬ gI M2 8 = 0 := by rw [h2.2.1]; exact hne
  refine ⟨fun _ => ⟨fun _ M3 e3 => ⟨rfl, fun q => absurd rfl q, fun _ => ?_⟩, fun q => absurd rfl q⟩, fun q => absurd q k8⟩
  subst e3
  refine ⟨fun _ => ?_, fun q => absurd q k8⟩
  refine l139_tail (by omega) ?_
  exact l185_bad hT (rf_tail (rf_7 h2) hx hx2) c2 hq
theorem l35_bad (h8 : ¬ gI M 8 ≤ 0) (hq : Q M) : vX9_line_35 Q M := ⟨fun q => absurd q h8, fun _ => hq⟩
end LineB
