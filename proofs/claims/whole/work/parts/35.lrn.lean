/-! learner() and text(): the world's addresses change -/
abbrev Qx (D : va_G) (κ : Nat → ClassId) (A : Nat → Prop) (q0 : Nat) (Q : Nat → Sg → Int32 → Prop) : Array Value → State → Outcome → State → Prop := va_Qi (fun r (u : Sg × (Nat → Nat) × Nat) => u.2.1 0 = q0 ∧ Q u.2.2 u.1 r) (fun u t => At D (Ky κ) (cw κ u.2.1 u.2.2) A u.1 t) A
def Kx (N : (Nat → Prop) → State → Prop) (D : va_G) (κ : Nat → ClassId) (η : Nat → Nat) (n : Nat) (l : Launch) (y : MethodName) (ws : List Cond) (rm : Room) (av : List Value) (M : Sg) (Q : Nat → Sg → Int32 → Prop) (mc ms : Nat) : Prop :=
  ∀ sz : Nat, Met l y ws rm (va_Pc av (Pr N D (Ky κ) (cw κ η n M) sz)) (Qx D κ (va_A (cw κ η n M) sz) (η 0) Q) mc ms (va_A (cw κ η n M) sz)
theorem ofW_x {N : (Nat → Prop) → State → Prop} {D : va_G} {κ : Nat → ClassId} {η : Nat → Nat} {n : Nat} {l : Launch} {y : MethodName} {ws ws' : List Cond} {rm : Room} {av : List Value} {M : Sg} {Q : Nat → Sg → Int32 → Prop} {mc ms : Nat} {cc : ByteArray} {maxL : Nat} {ret : Option FieldType} (hy : plainName y.cls = true) (hw : ws = Cond.code y cc maxL ret :: ws') (hlen : (lg_sl av).length ≤ maxL)
    (body : ∀ (p : Program) (e : Env) (s : State) (m : MethodId) (args : Array Value) (below : List Frame) (meth : Method) (c : Code) (A : Nat → Prop) (ls : Array Slot), CallFix p m c cc maxL s args ws y.cls → meth.sig.returnType = ret → meth.locks = false → Wd N D (Ky κ) A s (cw κ η n M) s.heap [] → lv_has ls maxL (lv_args 0 av) →
      W p l e rm s m args below meth c s.heap [] 0 0 (MQ below (Qx D κ A (η 0) Q) args s mc ms A) (F0 m 0 ls [])) : Kx N D κ η n l y ws rm av M Q mc ms := by
  intro sz
  refine Met.ofW (cc := cc) (maxL := maxL) (ret := ret) hy hw ?_
  intro p e s m args below meth c s₁ B hml hv
  obtain ⟨rfl, hsz, hP, hK, hD0, hN⟩ := hv
  subst hsz
  have hD := hD0.self (sz := s.heap.size)
  have hl := lv_entry av (n := maxL) hlen
  rw [lg_entry_eq]
  exact body p e s m _ below meth c (va_A (cw κ η n M) s.heap.size) _ ⟨B.exec, B.bytes, hml, findClass_of_methodNamed B.named, atoms_spec (ws := ws) B.pre⟩ B.returns B.notSynchronized ⟨hP, hD, va_S.rf, hK, fun q h => Or.inr h, hN⟩ hl
section Lrn
variable {p : Program} {l : Launch} {e : Env} {R : Room} {s : State} {m : MethodId} {args : Array Value} {below : List Frame} {meth : Method} {c : Code} {H : Heap} {locs : List Loc} {QQ : State → Prop} {cells slots : Nat}
variable {cc : ByteArray} {pc nL : Nat} {ls : Array Slot} {rest : List Value} {N : (Nat → Prop) → State → Prop} {D : va_G} {A : Nat → Prop} {κ : Nat → ClassId} {η η' : Nat → Nat} {n n' : Nat} {Ts : List Cond} {own : String} {M M' : Sg} {tys : List (ClassId × FieldType)}
theorem r_xret {mc ms q0 : Nat} {v : Int32} {Q : Nat → Sg → Int32 → Prop} (X : CallFix p m c cc nL s args Ts own) (hr : meth.sig.returnType = some .int) (hlk : meth.locks = false) (hw : Wd N D (Ky κ) A s (cw κ η n M) H locs) (hη : η 0 = q0) (hq : Q n M v) (h1 : cells ≤ mc) (h2 : slots ≤ ms) (hdg : decode cc pc = .ok (.ireturn, 1)) :
    W p l e R s m args below meth c H locs cells slots (MQ below (Qx D κ A q0 Q) args s mc ms A) (F0 m pc ls [.int v]) := by
  obtain ⟨hP, hD, hS, hK, hA, hN⟩ := hw
  refine W.widen (k := mc) (n := ms) h1 h2 ?_
  exact W.iret X.1 X.2.1 hr (fun t ht hW => ⟨⟨v, (M, η, n), rfl, ⟨hη, hq⟩, by rw [ht]; exact hP, va_K.moved hW.alike hK, hD⟩, hS.F ht⟩) hS.2.2 hdg hlk
end Lrn
def swE (η : Nat → Nat) (k : Nat) : Nat := if k = 6 then η 7 else if k = 7 then η 6 else if 18 ≤ k ∧ k < 22 then η (k + 4) else if 22 ≤ k ∧ k < 26 then η (k - 4) else η k
def swM (M : Sg) : Sg := (fun k => if k = 15 then M.1 17 else if k = 17 then M.1 15 else if k = 16 then M.1 18 else if k = 18 then M.1 16 else if k = 24 then (if M.1 24 = 1 then 2 else if M.1 24 = 2 then 1 else M.1 24) else M.1 k, fun a => if 9 ≤ a ∧ a < 13 then M.2.1 (a + 4) else if 13 ≤ a ∧ a < 17 then M.2.1 (a - 4) else M.2.1 a, M.2.2)
theorem swE_big (η : Nat → Nat) {k : Nat} (h : 26 ≤ k) : swE η k = η k := by
  unfold swE
  rw [if_neg (by omega), if_neg (by omega), if_neg (by omega), if_neg (by omega)]
theorem swM_big (M : Sg) {a : Nat} (h : 17 ≤ a) : gA (swM M) a = gA M a := by
  show (if 9 ≤ a ∧ a < 13 then M.2.1 (a + 4) else if 13 ≤ a ∧ a < 17 then M.2.1 (a - 4) else M.2.1 a) = M.2.1 a
  rw [if_neg (by omega), if_neg (by omega)]
theorem swM_cf4 (η : Nat → Nat) (M : Sg) : cf4 (swE η) (swM M) = cf4 η M := by
  have e : (if gI (swM M) 24 = 1 then Value.ref (swE η 7) else if gI (swM M) 24 = 2 then .ref (swE η 6) else .null) = (if gI M 24 = 1 then Value.ref (η 7) else if gI M 24 = 2 then .ref (η 6) else .null) := by
    show (if (if M.1 24 = 1 then (2 : Int32) else if M.1 24 = 2 then 1 else M.1 24) = 1 then Value.ref (η 6) else if (if M.1 24 = 1 then (2 : Int32) else if M.1 24 = 2 then 1 else M.1 24) = 2 then .ref (η 7) else .null) = (if M.1 24 = 1 then Value.ref (η 7) else if M.1 24 = 2 then .ref (η 6) else .null)
    by_cases h1 : M.1 24 = 1
    · simp [h1]
    · by_cases h2 : M.1 24 = 2
      · simp [h2]
      · simp [h1, h2]
  unfold cf4
  rw [e]
  rfl
theorem cw_swap {N : (Nat → Prop) → State → Prop} {D : va_G} {A : Nat → Prop} {s : State} {κ : Nat → ClassId} {η : Nat → Nat} {n : Nat} {M : Sg} {H : Heap} {locs : List Loc} (hw : Wd N D (Ky κ) A s (((cw κ η n M).set 0 (η 0, .inr (7, (cf0 η M).set 7 (.ref (η 7))))).set 0 (η 0, .inr (7, ((cf0 η M).set 7 (.ref (η 7))).set 8 (.ref (η 6))))) H locs) : Wd N D (Ky κ) A s (cw κ (swE η) n (swM M)) H locs := by
  have e1 : (fun i => if i < n then some (swE η (49 + i)) else none : Nat → Option Nat) = fun i => if i < n then some (η (49 + i)) else none := funext fun i => by rw [swE_big η (by omega)]
  have e2 : (fun i => if i < 12 then some (swE η (37 + i)) else none : Nat → Option Nat) = fun i => if i < 12 then some (η (37 + i)) else none := funext fun i => by rw [swE_big η (by omega)]
  have e3 : (List.range 12).map (crw κ (swE η) (swM M)) = (List.range 12).map (crw κ η M) := by
    apply List.map_congr_left
    intro i hi
    unfold crw
    rw [swE_big η (by omega), swM_big M (by omega)]
  have e4 : (List.range n).map (clr (swE η) (swM M)) = (List.range n).map (clr η M) := by
    apply List.map_congr_left
    intro i hi
    unfold clr lfl
    rw [swE_big η (by omega), swM_big M (a := 50) (by decide), swM_big M (a := 51) (by decide), swM_big M (a := 52) (by decide), swM_big M (a := 53) (by decide), swM_big M (a := 54) (by decide), swM_big M (a := 55) (by decide), swM_big M (a := 56) (by decide), swM_big M (a := 57) (by decide), swM_big M (a := 58) (by decide), swM_big M (a := 59) (by decide), swM_big M (a := 60) (by decide), swM_big M (a := 61) (by decide)]
  unfold cw
  rw [e3, e4]
  refine Wd_perm (w1 := ((cfx κ η n M).set 0 (η 0, .inr (7, (cf0 η M).set 7 (.ref (η 7))))).set 0 (η 0, .inr (7, ((cf0 η M).set 7 (.ref (η 7))).set 8 (.ref (η 6))))) [0, 1, 2, 3, 4, 5, 7, 6, 8, 9, 10, 11, 12, 13, 14, 15, 16, 17, 22, 23, 24, 25, 18, 19, 20, 21, 26, 27, 28, 29, 30, 31, 32, 33, 34, 35, 36] (by decide) ?_ hw
  unfold cfx
  rw [e1, e2, swM_cf4]
  rfl
