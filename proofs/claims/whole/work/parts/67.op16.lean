/-! routes: a list of all of them, and the two searches -/
theorem fa_or (a b : Nat) : nI a ||| nI b = nI (a ||| b) := by
  apply Int32.toBitVec_inj.1
  show BitVec.ofNat 32 a ||| BitVec.ofNat 32 b = BitVec.ofNat 32 (a ||| b)
  apply BitVec.eq_of_getLsbD_eq
  intro i hi
  simp [hi]
def usd (u : Int32) (p : List Nat) : Prop := ∃ U, U < 2 ^ 24 ∧ u = nI U ∧ ∀ s, s < 24 → U.testBit s = decide (s ∈ p)
theorem usd_0 : usd 0 [] := ⟨0, by decide, rfl, fun s _ => by simp⟩
theorem z_sh5 : ∀ s, s < 24 → (nI s &&& 31 = nI s) ∧ ((nI s).toBitVec.smod 32).toNat = s := by decide +kernel
theorem usd_q {u : Int32} {p : List Nat} {s : Nat} (h : usd u p) (hs : s < 24) : ((u >>> (nI s &&& 31)) &&& (1 : Int32)) = 0 ↔ s ∉ p := by
  obtain ⟨U, h1, h2, h3⟩ := h
  have h24 : U < 16777216 := h1
  have hd : U / 2 ^ s < 2 ^ 32 := Nat.lt_of_le_of_lt (Nat.div_le_self _ _) (by omega)
  rw [(z_sh5 s hs).1, h2, pk_shrN (by omega) (nI s) s (z_sh5 s hs).2, pk_andN (m := 1) hd 1 rfl]
  have t := h3 s hs
  rw [Nat.testBit_eq_decide_div_mod_eq, decide_eq_decide] at t
  show nI (U / 2 ^ s % 2) = nI 0 ↔ _
  rw [nI_eq (by omega) (by omega), ← t]
  omega
theorem usd_s {u : Int32} {p : List Nat} {s : Nat} (h : usd u p) (hs : s < 24) : usd (u ||| ((1 : Int32) <<< (nI s &&& 31))) (p ++ [s]) := by
  obtain ⟨U, h1, h2, h3⟩ := h
  have e : (1 : Int32) <<< (nI s &&& 31) = nI (2 ^ s) := by
    rw [(z_sh5 s hs).1, show (1 : Int32) = nI 1 from rfl, pk_shlN (nI s) s (z_sh5 s hs).2 (by rw [Nat.one_mul]; exact Nat.pow_lt_pow_right (by decide) (by omega)), Nat.one_mul]
  refine ⟨U ||| 2 ^ s, Nat.or_lt_two_pow h1 (Nat.pow_lt_pow_right (by decide) hs), by rw [e, h2, fa_or], fun k hk => ?_⟩
  have hm : k ∈ p ++ [s] ↔ (k ∈ p ∨ s = k) := by
    rw [List.mem_append, List.mem_singleton]
    exact or_congr Iff.rfl eq_comm
  rw [Nat.testBit_or, h3 k hk, Nat.testBit_two_pow, decide_eq_decide.mpr hm, Bool.decide_or]
def pth (f : Nat → Int32) (p : List Nat) : Prop := ∀ q, q < p.length → f q = nI (p.getD q 0)
theorem pth_0 {f : Nat → Int32} : pth f [] := fun q hq => absurd hq (Nat.not_lt_zero q)
theorem pth_s {f : Nat → Int32} {p : List Nat} {s : Nat} (h : pth f p) : pth (upd f p.length (nI s)) (p ++ [s]) := by
  intro q hq
  rw [List.length_append, List.length_singleton] at hq
  rw [z_getD]
  by_cases c : q < p.length
  · rw [pk_un (by omega), if_pos c]; exact h q c
  · have e : q = p.length := by omega
    rw [if_neg c, if_pos e, e, pk_us]
theorem pth_cong {f g : Nat → Int32} {p : List Nat} (h : pth f p) (e : ∀ q, q < p.length → g q = f q) : pth g p := fun q hq => (e q hq).trans (h q hq)
abbrev Rts : Type := List (List Nat × Int32)
def byd (R : Sg) (c s : Nat) : Int32 := if gA R 46 s = nI c then gA R 47 s else gA R 46 s
def fitR (lo hi wa t v : Int32) : Bool := decide (¬ t < lo) && decide (¬ hi < t) && decide (v &&& wa = wa)
theorem fitR_t {lo hi wa t v : Int32} : fitR lo hi wa t v = true ↔ ¬ t < lo ∧ ¬ hi < t ∧ v &&& wa = wa := by
  unfold fitR
  rw [Bool.and_eq_true, Bool.and_eq_true, decide_eq_true_iff, decide_eq_true_iff, decide_eq_true_iff, and_assoc]
def onR (lo hi wa : Int32) (p : List Nat) (t v : Int32) : Rts := if fitR lo hi wa t v = true then [(p, t)] else []
def brR (R : Sg) (lo hi wa : Int32) (F : Nat → List Nat → Int32 → Int32 → Rts) (c : Nat) (p : List Nat) (t v : Int32) (s : Nat) : Rts :=
  if gA R 50 s = 0 ∧ s ∉ p then (if byd R c s = 0 then onR lo hi wa (p ++ [s]) (t + gA R 48 s) (v ||| gA R 49 s) else F (byd R c s).toNatClampNeg (p ++ [s]) (t + gA R 48 s) (v ||| gA R 49 s)) else []
def dfs (R : Sg) (m : Nat) (lo hi wa : Int32) : Nat → Nat → List Nat → Int32 → Int32 → Rts
  | 0 => fun _ _ _ _ => []
  | d + 1 => fun c p t v => (incs R c m).flatMap (brR R lo hi wa (dfs R m lo hi wa d) c p t v)
theorem incs_mem {R : Sg} {c m s : Nat} (h : s ∈ incs R c m) : s < m ∧ inc R c s = true := by
  unfold incs at h
  rw [List.mem_filter, List.mem_range] at h
  exact h
theorem inc_t {R : Sg} {c s : Nat} : inc R c s = true ↔ gA R 46 s = nI c ∨ gA R 47 s = nI c := by
  unfold inc
  rw [Bool.or_eq_true, decide_eq_true_iff, decide_eq_true_iff]
theorem byd_ok {m c s : Nat} {C R : Sg} (h : RelS m C R) (hc : c < 12) (hs : s < m) (hi : inc R c s = true) : ∃ b, b < 12 ∧ byd R c s = nI b ∧ b ≠ c := by
  obtain ⟨-, -, -, -, ⟨a, b, a1, b1, ab, ea, eb⟩, -⟩ := h.2.2.2.1 s hs
  unfold byd
  rw [inc_t, ea, eb] at hi
  rw [ea, eb]
  by_cases e : nI a = nI c
  · rw [if_pos e]
    rw [nI_eq (by omega) (by omega)] at e
    exact ⟨b, by omega, rfl, by omega⟩
  · rw [if_neg e]
    exact ⟨a, by omega, rfl, fun q => e (by rw [q])⟩
theorem len_flat {l : List Nat} {f : Nat → Rts} {B : Nat} (h : ∀ s ∈ l, (f s).length ≤ B) : (l.flatMap f).length ≤ l.length * B := by
  induction l with
  | nil => exact Nat.zero_le _
  | cons a l ih =>
    rw [List.flatMap_cons, List.length_append, List.length_cons, Nat.succ_mul]
    have h1 := h a List.mem_cons_self
    have h2 := ih (fun s hs => h s (List.mem_cons_of_mem a hs))
    omega
theorem len_one (lo hi wa : Int32) (p : List Nat) (t v : Int32) : (onR lo hi wa p t v).length ≤ 1 := by
  unfold onR
  by_cases c : fitR lo hi wa t v = true
  · rw [if_pos c]; exact Nat.le_refl 1
  · rw [if_neg c]; exact Nat.zero_le 1
theorem len_dfs {m : Nat} {C R : Sg} {lo hi wa : Int32} (h : RelS m C R) : ∀ (d c : Nat) (p : List Nat) (t v : Int32), c < 12 → (dfs R m lo hi wa d c p t v).length ≤ 4 ^ d := by
  intro d
  induction d with
  | zero => intro c p t v _; exact Nat.zero_le _
  | succ d ih =>
    intro c p t v hc
    have hl := (h.2.2.2.2.2.2 c hc).1
    have h4 : 1 ≤ 4 ^ d := Nat.one_le_pow _ _ (by decide)
    refine Nat.le_trans (len_flat (B := 4 ^ d) (fun s hs => ?_)) (by rw [Nat.pow_succ, Nat.mul_comm (4 ^ d) 4]; exact Nat.mul_le_mul_right _ hl)
    obtain ⟨s1, s2⟩ := incs_mem hs
    obtain ⟨b, b1, b2, b3⟩ := byd_ok h hc s1 s2
    unfold brR
    by_cases c1 : gA R 50 s = 0 ∧ s ∉ p
    · rw [if_pos c1]
      by_cases c2 : byd R c s = 0
      · rw [if_pos c2]; exact Nat.le_trans (len_one _ _ _ _ _ _) h4
      · rw [if_neg c2, b2, nI_clamp (by omega)]
        exact ih b _ _ _ b1
    · rw [if_neg c1]; exact Nat.zero_le _
/-! the class -/
def WP (L : Rts) (f : Nat) (tg : Int32) (pl : Nat) (M M' : Sg) (r : Int32) : Prop :=
  ag [10, 12, 13] [25] M M' ∧
  ((r = 0 ∧ gI M' 10 = nI (f + L.length) ∧ (∀ i, i < L.length → tg ≠ nI (f + i)) ∧ ∀ q, q < pl → gA M' 25 q = gA M 25 q) ∨
   (r = 1 ∧ ∃ i p t, L[i]? = some (p, t) ∧ tg = nI (f + i) ∧ gI M' 12 = nI p.length ∧ gI M' 13 = t ∧ p.length ≤ 8 ∧ pth (gA M' 25) p))
theorem WP_app {B L : Rts} {f pl : Nat} {tg : Int32} {M M1 M' : Sg} {r : Int32} (h : WP B f tg pl M M1 0) (g : WP L (f + B.length) tg pl M1 M' r) : WP (B ++ L) f tg pl M M' r := by
  obtain ⟨a1, h⟩ := h
  obtain ⟨a2, g⟩ := g
  rcases h with ⟨-, h2, h3, h4⟩ | ⟨h, -⟩
  · refine ⟨ag_tr a1 a2, ?_⟩
    rcases g with ⟨g1, g2, g3, g4⟩ | ⟨g1, i, p, t, g2, g3, g4⟩
    · refine Or.inl ⟨g1, by rw [g2, List.length_append, Nat.add_assoc], fun i hi => ?_, fun q hq => (g4 q hq).trans (h4 q hq)⟩
      rw [List.length_append] at hi
      by_cases c : i < B.length
      · exact h3 i c
      · have := g3 (i - B.length) (by omega)
        rw [show f + B.length + (i - B.length) = f + i by omega] at this
        exact this
    · refine Or.inr ⟨g1, B.length + i, p, t, ?_, by rw [g3, Nat.add_assoc], g4⟩
      rw [List.getElem?_append_right (Nat.le_add_right _ _), Nat.add_sub_cancel_left]
      exact g2
  · exact absurd h (by decide)
theorem WP_left {B L : Rts} {f pl : Nat} {tg : Int32} {M M' : Sg} (h : WP B f tg pl M M' 1) : WP (B ++ L) f tg pl M M' 1 := by
  obtain ⟨a1, h⟩ := h
  rcases h with ⟨h, -⟩ | ⟨h1, i, p, t, h2, h3⟩
  · exact absurd h (by decide)
  · refine ⟨a1, Or.inr ⟨h1, i, p, t, ?_, h3⟩⟩
    have hi : i < B.length := by
      rcases Nat.lt_or_ge i B.length with z | z
      · exact z
      · rw [List.getElem?_eq_none z] at h2; exact absurd h2 (by simp)
    rw [List.getElem?_append_left hi]
    exact h2
theorem RelS_w {m : Nat} {C C' R : Sg} (h : RelS m C R) (a : ag [10, 12, 13] [25] C C') : RelS m C' R := RelS_C h (a.1 5 (by decide)) (fun b hb => a.2.1 b (by simp; omega))
theorem z_target {n f pl : Nat} {lo hi wa tg t v : Int32} {p : List Nat} {M0 M : Sg} {Q : Sg → Int32 → Prop} (a0 : ag [10, 12, 13] [25] M0 M) (pre : ∀ q, q < pl → gA M 25 q = gA M0 25 q) (h7 : gI M 7 = lo) (h8 : gI M 8 = hi) (h9 : gI M 9 = wa) (h11 : gI M 11 = tg) (h10 : gI M 10 = nI f) (hp : pth (gA M 25) p) (hl : p.length ≤ 8) (hq : ∀ M' r, WP (onR lo hi wa p t v) f tg pl M0 M' r → Q M' r) : wX3_isTarget n M (nI p.length) t v Q := by
  have none' : fitR lo hi wa t v ≠ true → Q M 0 := fun c => hq M 0 (by
    unfold onR
    rw [if_neg c]
    exact ⟨a0, Or.inl ⟨rfl, h10, fun i hi => absurd hi (Nat.not_lt_zero i), pre⟩⟩)
  unfold wX3_isTarget
  rw [h7, h8]
  refine z_within (fun c => ⟨fun _ => none' (fun q => ?_), fun q => absurd rfl q⟩) (fun c1 c2 => ⟨fun q => absurd q (by decide), fun _ => ?_⟩)
  · rw [fitR_t] at q
    exact c.elim q.1 q.2.1
  · rw [h9, h10, h11]
    refine ⟨fun c3 => ?_, fun c3 => none' (fun q => c3 (fitR_t.mp q).2.2)⟩
    have hf : fitR lo hi wa t v = true := fitR_t.mpr ⟨Int32.not_lt.mpr c1, Int32.not_lt.mpr c2, c3⟩
    have e1 : onR lo hi wa p t v = [(p, t)] := by unfold onR; rw [if_pos hf]
    rw [e1] at hq
    refine ⟨fun c4 M3 e3 => hq M3 0 ?_, fun c4 M4 e4 M5 e5 => hq M5 1 ?_⟩
    · subst e3
      refine ⟨ag_sI a0 (by decide), Or.inl ⟨rfl, nI_1 f, fun i hi q => c4 ?_, pre⟩⟩
      have : i = 0 := by simpa using hi
      rw [this] at q
      exact q.symm
    · subst e4 e5
      exact ⟨ag_sI (ag_sI a0 (by decide)) (by decide), Or.inr ⟨rfl, 0, p, t, rfl, c4.symm, rfl, rfl, hl, hp⟩⟩
theorem z_isOpen {n m s : Nat} {M R : Sg} {Q : Sg → Int32 → Prop} (hS : RelS m M R) (hs : s < m) (h0 : ¬ gA R 50 s = 0 → Q M 0) (h1 : gA R 50 s = 0 → Q M 1) : wX3_isOpen n M (nI s) Q := by
  have m24 : m ≤ 24 := hS.1
  unfold wX3_isOpen
  rw [hS.2.1]
  refine z_withinN (by omega) (fun q => absurd q (fun q => q.elim (fun q => absurd q (nI_pos (by omega))) (fun q => absurd q (nI_ge hs (by omega))))) (fun _ _ _ => ⟨fun q => absurd q (by decide), fun _ => ⟨vp_in_nI (by omega) (by decide), ?_⟩⟩)
  rw [nI_clamp (by omega), hS.2.2.2.2.1 s (by omega)]
  exact ⟨h0, h1⟩
theorem z_walk {n m : Nat} {lo hi wa tg : Int32} {R : Sg} : ∀ (d c : Nat) (p : List Nat) (t v u : Int32) (f : Nat) (M : Sg) (Q : Sg → Int32 → Prop), p.length + d = 8 → c < 12 → usd u p → RelS m M R → gI M 7 = lo → gI M 8 = hi → gI M 9 = wa → gI M 11 = tg → gI M 10 = nI f → pth (gA M 25) p → (∀ M' r, WP (dfs R m lo hi wa d c p t v) f tg p.length M M' r → Q M' r) → wX3_walk n (d + 2) M (nI c) (nI p.length) t v u Q := by
  intro d
  induction d with
  | zero =>
    intro c p t v u f M Q hl hc hu hS h7 h8 h9 h11 h10 hp hq
    refine ⟨fun _ => hq M 0 ⟨ag_rf, Or.inl ⟨rfl, h10, fun i hi => absurd hi (Nat.not_lt_zero i), fun _ _ => rfl⟩⟩, fun q => absurd (by rw [show p.length = 8 by omega]; decide) q⟩
  | succ d ih =>
    intro c p t v u f M Q hl hc hu hS h7 h8 h9 h11 h10 hp hq
    have h24 := (hS.2.2.2.2.2.2 c hc)
    have m24 : m ≤ 24 := hS.1
    have hcin : vp_in (nI c) 12 := vp_in_nI hc (by decide)
    have hccl : (nI c).toNatClampNeg = c := nI_clamp (by omega)
    have hpin : vp_in (nI p.length) 8 := vp_in_nI (by omega) (by decide)
    have hpcl : (nI p.length).toNatClampNeg = p.length := nI_clamp (by omega)
    show wX3_walk_b n (wX3_walk n (d + 2)) M (nI c) (nI p.length) t v u Q
    refine ⟨fun q => absurd q (by rw [show (8 : Int32) = nI 8 from rfl]; exact nI_ge (by omega) (by decide)), fun _ => ?_⟩
    refine z_within (fun q => absurd q (fun q => q.elim (fun q => absurd q (nI_pos (by omega))) (fun q => absurd q (Int32.not_lt.mpr (by rw [show (11 : Int32) = nI 11 from rfl]; exact nI_le (by omega) (by decide)))))) (fun _ _ => ⟨fun _ => ?_, fun q => absurd q (by decide)⟩)
    have loop : ∀ (k i f' : Nat) (M1 : Sg), i + k = (incs R c m).length → ag [10, 12, 13] [25] M M1 → gI M1 10 = nI f' → pth (gA M1 25) p → (∀ M' r, WP (((incs R c m).drop i).flatMap (brR R lo hi wa (dfs R m lo hi wa d) c p t v)) f' tg p.length M1 M' r → Q M' r) → vX3_walk_21 n (wX3_walk n (d + 2)) Q (k + 1) M1 (nI c) (nI p.length) t v u (nI i) := by
      intro k
      induction k with
      | zero =>
        intro i f' M1 hik a h10 hp hq
        have hS1 := RelS_w hS a
        refine ⟨hcin, fun _ => hq M1 0 ?_, fun q => absurd ?_ q⟩
        · rw [List.drop_of_length_le (by omega), List.flatMap_nil]
          exact ⟨ag_rf, Or.inl ⟨rfl, h10, fun i hi => absurd hi (Nat.not_lt_zero i), fun _ _ => rfl⟩⟩
        · rw [hccl, (hS1.2.2.2.2.2.2 c hc).2.1]
          exact nI_le (by omega) (by omega)
      | succ k ihk =>
        intro i f' M1 hik a h10 hp hq
        have hS1 := RelS_w hS a
        have hil : i < (incs R c m).length := by omega
        obtain ⟨s, es⟩ : ∃ s, s = (incs R c m).getD i 0 := ⟨_, rfl⟩
        have es' : s = (incs R c m)[i] := by rw [es, List.getD_eq_getElem?_getD, List.getElem?_eq_getElem hil]; rfl
        obtain ⟨s1, s2⟩ := incs_mem (R := R) (c := c) (m := m) (s := s) (by rw [es']; exact List.getElem_mem hil)
        have s24 : s < 24 := by omega
        have hsin : vp_in (nI s) 24 := vp_in_nI s24 (by decide)
        have hscl : (nI s).toNatClampNeg = s := nI_clamp (by omega)
        rw [List.drop_eq_getElem_cons hil, ← es', List.flatMap_cons] at hq
        obtain ⟨w1, w2, w3, w4, -⟩ := hS1.2.2.2.1 s s1
        have fin : ∀ M3 r, WP (brR R lo hi wa (dfs R m lo hi wa d) c p t v s) f' tg p.length M1 M3 r → vX3_walk_165 n (wX3_walk n (d + 2)) (vX3_walk_21 n (wX3_walk n (d + 2)) Q (k + 1)) Q M3 (nI c) (nI p.length) t v u (nI i) r := by
          intro M3 r h3
          rcases id h3 with ⟨a3, ⟨e, q10, qn, qp⟩ | ⟨e, -⟩⟩
          · subst e
            refine ⟨fun _ y ey => ?_, fun q => absurd rfl q⟩
            rw [ey, nI_1]
            exact ihk (i + 1) _ M3 (by omega) (ag_tr a a3) q10 (pth_cong hp qp) (fun M' r hW => hq M' r (WP_app h3 hW))
          · subst e
            exact ⟨fun q => absurd q (by decide), fun _ => hq M3 1 (WP_left h3)⟩
        have skip : ¬ (gA R 50 s = 0 ∧ s ∉ p) → vX3_walk_174 n (wX3_walk n (d + 2)) (vX3_walk_21 n (wX3_walk n (d + 2)) Q (k + 1)) Q M1 (nI c) (nI p.length) t v u (nI i) := fun c1 => by
          refine (fin M1 0 ?_).1 rfl
          unfold brR
          rw [if_neg c1]
          exact ⟨ag_rf, Or.inl ⟨rfl, h10, fun i hi => absurd hi (Nat.not_lt_zero i), fun _ _ => rfl⟩⟩
        refine ⟨hcin, fun q => absurd q ?_, fun _ => ⟨hcin, ⟨vp_in_nI (by omega) (by decide), by rw [hccl]; exact hc⟩, fun y ey => ?_⟩⟩
        · rw [hccl, (hS1.2.2.2.2.2.2 c hc).2.1]
          exact nI_ge (by omega) (by omega)
        rw [hccl, nI_clamp (by omega), (hS1.2.2.2.2.2.2 c hc).2.2 i hil, ← es] at ey
        subst ey
        refine z_isOpen hS1 s1 (fun c1 => ⟨fun _ => skip (fun q => c1 q.1), fun q => absurd rfl q⟩) (fun c1 => ⟨fun q => absurd q (by decide), fun _ => ⟨fun c2 => ⟨hpin, fun M2 e2 => ?_⟩, fun c2 => skip (fun q => c2 ((usd_q hu s24).mpr q.2))⟩⟩)
        rw [hpcl] at e2
        have hsp : s ∉ p := (usd_q hu s24).mp c2
        have a2 : ag [10, 12, 13] [25] M1 M2 := by rw [e2]; exact ag_sA ag_rf (by decide)
        have p2 : pth (gA M2 25) (p ++ [s]) := by rw [e2]; exact pth_s hp
        have pre2 : ∀ q, q < p.length → gA M2 25 q = gA M1 25 q := fun q hq => by rw [e2]; exact pk_un (by omega)
        have w101 : vX3_walk_101 n (wX3_walk n (d + 2)) (vX3_walk_21 n (wX3_walk n (d + 2)) Q (k + 1)) Q M2 (nI c) (nI p.length) t v u (nI i) (nI s) (byd R c s) := by
          refine ⟨hsin, fun y ey => ⟨hsin, fun z ez => ?_⟩⟩
          rw [hscl, a2.2.1 21 (by decide), w3] at ey
          rw [hscl, a2.2.1 22 (by decide), w4] at ez
          subst ey ez
          rw [nI_1, show p.length + 1 = (p ++ [s]).length by rw [List.length_append, List.length_singleton]]
          have hlen : (p ++ [s]).length = p.length + 1 := by rw [List.length_append, List.length_singleton]
          obtain ⟨b, b1, b2, b3⟩ := byd_ok hS1 hc s1 s2
          refine ⟨fun c3 => ?_, fun c3 => ?_⟩
          · rw [b2]
            refine ih b (p ++ [s]) _ _ _ f' M2 _ (by rw [hlen]; omega) b1 (usd_s hu s24) (RelS_w hS1 a2) ((a2.1 7 (by decide)).trans ((a.1 7 (by decide)).trans h7)) ((a2.1 8 (by decide)).trans ((a.1 8 (by decide)).trans h8)) ((a2.1 9 (by decide)).trans ((a.1 9 (by decide)).trans h9)) ((a2.1 11 (by decide)).trans ((a.1 11 (by decide)).trans h11)) (by rw [e2]; exact h10) p2 (fun M3 r hW => fin M3 r ?_)
            have eb : brR R lo hi wa (dfs R m lo hi wa d) c p t v s = dfs R m lo hi wa d b (p ++ [s]) (t + gA R 48 s) (v ||| gA R 49 s) := by
              unfold brR
              rw [if_pos ⟨c1, hsp⟩, if_neg c3, b2, nI_clamp (by omega)]
            rw [eb]
            obtain ⟨x1, x2⟩ := hW
            refine ⟨ag_tr a2 x1, x2.imp (fun z => ⟨z.1, z.2.1, z.2.2.1, fun q hq => (z.2.2.2 q (by omega)).trans (pre2 q hq)⟩) (fun z => z)⟩
          · refine z_target (M0 := M1) (pl := p.length) a2 pre2 ((a2.1 7 (by decide)).trans ((a.1 7 (by decide)).trans h7)) ((a2.1 8 (by decide)).trans ((a.1 8 (by decide)).trans h8)) ((a2.1 9 (by decide)).trans ((a.1 9 (by decide)).trans h9)) ((a2.1 11 (by decide)).trans ((a.1 11 (by decide)).trans h11)) (by rw [e2]; exact h10) p2 (by omega) (fun M3 r hW => fin M3 r ?_)
            unfold brR
            rw [if_pos ⟨c1, hsp⟩, if_pos c3]
            exact hW
        refine ⟨hsin, ?_⟩
        rw [hscl, a2.2.1 19 (by decide), a2.2.1 20 (by decide), w1, w2]
        unfold byd at w101
        refine ⟨fun c3 => ⟨hsin, ?_⟩, fun c3 => ⟨hsin, ?_⟩⟩
        · rw [if_neg c3] at w101; exact w101
        · rw [if_pos c3] at w101; exact w101
    exact ⟨_, loop (incs R c m).length 0 f M (by omega) ag_rf h10 hp (fun M' r hW => hq M' r hW)⟩
