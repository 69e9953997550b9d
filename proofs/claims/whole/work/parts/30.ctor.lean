/-! constructors: worlds that grow -/
def va_AOA (ty : FieldType) (U : State) : Prop := (Cond.arrayOver (.array ty)).before #[] U = true
theorem va_AOA.use {ty : FieldType} {A : Array Value} {U : State} (h : va_AOA ty U) : (Cond.arrayOver (.array ty)).before A U = true := h
def Kc {S : Type} (N : (Nat → Prop) → State → Prop) (D : va_G) (tys : List (ClassId × FieldType)) (l : Launch) (y : MethodName) (ws : List Cond) (rm : Room) (av : List Value) (w : va_W) (wf : S → va_W) (post : S → Prop) (mc ms : Nat) : Prop :=
  ∀ sz : Nat, Met l y ws rm (va_Pc av (Pr N D tys w sz)) (va_Qv post (fun u t => va_P D vwCl (wf u) t.heap ∧ va_K D vwCl tys t ∧ va_D (va_A w sz) (wf u)) (va_A w sz)) mc ms (va_A w sz)
theorem ofW_c {S : Type} {N : (Nat → Prop) → State → Prop} {D : va_G} {tys : List (ClassId × FieldType)} {l : Launch} {y : MethodName} {ws ws' : List Cond} {rm : Room} {av : List Value} {w : va_W} {wf : S → va_W} {post : S → Prop} {mc ms : Nat} {cc : ByteArray} {maxL : Nat} (hy : plainName y.cls = true) (hw : ws = Cond.code y cc maxL none :: ws') (hlen : (lg_sl av).length ≤ maxL)
    (body : ∀ (p : Program) (e : Env) (s : State) (m : MethodId) (args : Array Value) (below : List Frame) (meth : Method) (c : Code) (A : Nat → Prop) (ls : Array Slot), CallFix p m c cc maxL s args ws y.cls → meth.sig.returnType = none → meth.locks = false → meth.name = y.name → Wd N D tys A s w s.heap [] → lv_has ls maxL (lv_args 0 av) →
      W p l e rm s m args below meth c s.heap [] 0 0 (MQ below (va_Qv post (fun u t => va_P D vwCl (wf u) t.heap ∧ va_K D vwCl tys t ∧ va_D A (wf u)) A) args s mc ms A) (F0 m 0 ls [])) : Kc N D tys l y ws rm av w wf post mc ms := by
  intro sz
  refine Met.ofW (cc := cc) (maxL := maxL) (ret := none) hy hw ?_
  intro p e s m args below meth c s₁ B hml hv
  obtain ⟨rfl, hsz, hP, hK, hD0, hN⟩ := hv
  subst hsz
  have hD := hD0.self (sz := s.heap.size)
  have hl := lv_entry av (n := maxL) hlen
  rw [lg_entry_eq]
  exact body p e s m _ below meth c (va_A w s.heap.size) _ ⟨B.exec, B.bytes, hml, findClass_of_methodNamed B.named, atoms_spec (ws := ws) B.pre⟩ B.returns B.notSynchronized (name_of_methodNamed B.named B.method).1 ⟨hP, hD, va_S.rf, hK, fun q h => Or.inr h, hN⟩ hl
section Ctor
variable {p : Program} {l : Launch} {e : Env} {R : Room} {s : State} {m : MethodId} {args : Array Value} {below : List Frame} {meth : Method} {c : Code} {H : Heap} {locs : List Loc} {QQ : State → Prop} {cells slots : Nat}
variable {cc : ByteArray} {pc nL : Nat} {ls : Array Slot} {rest st : List Value} {N : (Nat → Prop) → State → Prop} {D : va_G} {A : Nat → Prop} {a : Nat} {κ : Nat → ClassId} {tys : List (ClassId × FieldType)} {w w' : va_W} {Ts : List Cond} {own : String}
theorem r_cret {S : Type} {wf : S → va_W} {post : S → Prop} (u : S) (X : CallFix p m c cc nL s args Ts own) (hr : meth.sig.returnType = none) (hlk : meth.locks = false) (hw : Wd N D tys A s (wf u) H locs) (hq : post u) (hdg : decode cc pc = .ok (.return_, 1)) :
    W p l e R s m args below meth c H locs cells slots (MQ below (va_Qv post (fun u t => va_P D vwCl (wf u) t.heap ∧ va_K D vwCl tys t ∧ va_D A (wf u)) A) args s cells slots A) (F0 m pc ls []) := by
  obtain ⟨hP, hD, hS, hK, hA, hN⟩ := hw
  exact W.vret X.1 X.2.1 hr (fun t ht hW => ⟨⟨u, rfl, hq, by rw [ht]; exact hP, va_K.moved hW.alike hK, hD⟩, hS.F ht⟩) hS.2.2 hdg hlk
theorem r_oinit {idx : Nat} (X : CallFix p m c cc nL s args Ts own) (hl : ls.size = nL) (hlink : (Cond.methodLink own idx objectInit).before args s = true) (hinst : (Cond.instanceMethod objectInit).before args s = true) (hcode : (Cond.code objectInit ⟨#[0xb1]⟩ 1 none).before args s = true) (hf : 1 ≤ R.frames) (hlo : (rest.map fun v => v.category).sum + 12 ≤ R.locals) (hdg : decode cc pc = .ok (.invokespecial idx, 3))
    (kk : W p l e R s m args below meth c H locs cells slots QQ (F0 m (pc + 3) ls rest)) : W p l e R s m args below meth c H locs cells slots QQ (F0 m pc ls (.ref a :: rest)) :=
  W.objInit X.1 X.2.1 X.2.2.2.1 hlink hinst hcode rfl (by rw [X.2.2.1]; exact hl) rfl hdg hf (by show 2 * 0 + _ + 12 ≤ _; omega) kk
theorem r_newa {atype : ArrayType} {ty : FieldType} {n : Int32} {N' : Nat} {a0 : vp_A} (X : CallFix p m c cc nL s args Ts own) (hw : Wd N D (Ky κ) A s w H locs) (t0 : Nat) (ht : (Ky κ)[t0]? = some (κ t0, ty)) (hty : newarray.typeOf atype = ty) (hprim : ∀ C, ty ≠ .object C) (harr : (Cond.arrayClass ty).before args s = true) (ha : ∀ cA : ClassId, vp_cell cA a0 = arrV cA N' (fun _ => defaultValue ty)) (hn : ¬ n < 0) (hN : n.toNatClampNeg = N') (hbytes : N' * componentBytes ty ≤ 536870912) (hcells : cells + 1 ≤ R.cells) (hslots : slots + N' ≤ R.slots) (hdg : decode cc pc = .ok (.newarray atype, 2))
    (kk : ∀ (q : Nat) (H1 : Heap), Wd N D (Ky κ) A s (w ++ [(q, .inl (κ t0, a0))]) H1 locs → W p l e R s m args below meth c H1 locs (cells + 1) (slots + N') QQ (F0 m (pc + 2) ls (.ref q :: rest))) : W p l e R s m args below meth c H locs cells slots QQ (F0 m pc ls (.int n :: rest)) := by
  obtain ⟨hP, hD, hS, hK, hA, hN0⟩ := hw
  refine va_newa X.1 X.2.1 (by rw [hty]; exact harr) hty hK hP hD hS hA ha hn hN hbytes hcells hslots hdg (fun q cA H1 hK1 hP1 hD1 hS1 => ?_)
  have e1 := (hK1.2 (Ky κ).length (cA, ty) (by rw [List.getElem?_append_right (Nat.le_refl _), Nat.sub_self]; rfl)).2
  have e2 := (hK.2 t0 _ ht).2
  have e : cA = κ t0 := by
    cases ty <;> first | exact absurd rfl (hprim _) | exact Option.some.inj (e1.symm.trans e2)
  rw [e] at hP1 hD1
  exact kk q H1 ⟨hP1, hD1, hS1, hK, hA, hN0⟩
theorem r_pfF {C : String} {T : u_T} {NN ci index : Nat} {v : Value} {fs : List Value} {ty : FieldType} {ty0 : Nat → FieldType} (X : CallFix p m c cc nL s args Ts own) (hin : ∀ w ∈ u_ws C T NN, w ∈ Ts) (hty : ∀ k, k < NN → parseFieldDescriptor (T k).2.2.1 = some (ty0 k)) (hnm : ∀ a, a < NN → ∀ b, b < NN → a ≠ b → (T a).2.1 ≠ (T b).2.1) (hmn : meth.name = "<init>") (hw : Wd N D tys A s w H locs) (q0 : Nat) (he : w[q0]? = some (a, .inr (ci, fs))) (hc : vwCl[ci]? = some (C, T, NN)) (k : Nat) (hk : k < NN)
    (hlink : (Cond.fieldLink own index C (T k).2.1 (T k).2.2.1).before args s = true) (hTC : (T k).1 = C) (hCo : C = own) (hfin : (T k).2.2.2 = true) (hd : parseFieldDescriptor (T k).2.2.1 = some ty) (hn : narrow ty v = v) (hfit : fits ty v = true) (hl : k < fs.length) (hdg : decode cc pc = .ok (.putfield index, 3))
    (kk : ∀ (H1 : Heap) (locs1 : List Loc), Wd N D tys A s (w.set q0 (a, .inr (ci, fs.set k v))) H1 locs1 → W p l e R s m args below meth c H1 locs1 cells slots QQ (F0 m (pc + 3) ls rest)) : W p l e R s m args below meth c H locs cells slots QQ (F0 m pc ls (v :: .ref a :: rest)) := by
  obtain ⟨hP, hD, hS, hK, hA, hN⟩ := hw
  exact va_putF (D := D) (ci := ci) (v := v) (ty := ty) (C := C) (T := T) (N := NN) X.1 X.2.1 X.2.2.2.2 hin ty0 hty hnm X.2.2.2.1 hK hP hD hS q0 he hc k hk hlink (fun x h9 => by rw [hTC] at h9; exact h9) hfin hmn (hTC.trans hCo) hd hn hfit hl hdg (fun H1 locs1 hP hD hS => kk H1 locs1 ⟨hP, hD, hS, hK, hA, hN⟩)
theorem r_new {C : String} {T : u_T} {NN ci index : Nat} {ty : Nat → FieldType} {fs : List Value} (X : CallFix p m c cc nL s args Ts own) (hw : Wd N D tys A s w H locs) (hin : ∀ w ∈ u_ws C T NN, w ∈ Ts) (hty : ∀ k, k < NN → parseFieldDescriptor (T k).2.2.1 = some (ty k)) (hcl : (Cond.classLink own index C).before args s = true) (hinst : (Cond.instantiable C NN).before args s = true) (hini : (Cond.initialized C).before args s = true) (hc : vwCl[ci]? = some (C, T, NN)) (hfs : ∀ j, j < NN → defaultValue (ty j) = vp_V fs j) (hcells : cells + 1 ≤ R.cells) (hslots : slots + NN ≤ R.slots) (hdg : decode cc pc = .ok (.new index, 3))
    (kk : ∀ (q : Nat) (H1 : Heap), Wd N D tys A s (w ++ [(q, .inr (ci, fs))]) H1 locs → W p l e R s m args below meth c H1 locs (cells + 1) (slots + NN) QQ (F0 m (pc + 3) ls (.ref q :: rest))) : W p l e R s m args below meth c H locs cells slots QQ (F0 m pc ls rest) := by
  obtain ⟨hP, hD, hS, hK, hA, hN⟩ := hw
  exact va_new (ci := ci) (fs := fs) (C := C) (T := T) (N := NN) X.1 X.2.1 X.2.2.2.2 hin ty hty X.2.2.2.1 hcl hinst hini hK hP hD hS hA hc hfs hcells hslots hdg (fun q H1 hP hD hS => kk q H1 ⟨hP, hD, hS, hK, hA, hN⟩)
/-- the last cell of a world is handed to a callee, what comes back stands behind the rest -/
theorem w_last {S : Type} {wf : S → va_W} {w0 : va_W} {q : Nat × va_E} {u : S} {t : State} {H1 : Heap} {locs1 : List Loc} (hw : Wd N D tys A s (w0 ++ [q]) H locs) (ht : t.heap = H1) (hB : va_P D vwCl (wf u) t.heap ∧ va_K D vwCl tys t ∧ va_D (va_A [q] H.size) (wf u)) (hk : ∀ x : Nat, x < H.size → ¬ va_A [q] H.size x → H1[x]? = H[x]?) (hS : va_S A s.heap H1 locs1) (hF : ∀ x : Nat, va_A [q] H.size x → A x) : Wd N D tys A s (w0 ++ wf u) H1 locs1 := by
  obtain ⟨hP, hD, hS0, hK, hA, hN⟩ := hw
  obtain ⟨hP1, hK1, hD1⟩ := hB
  rw [ht] at hP1
  have lft : ∀ (k : Nat) (x : Nat × va_E), w0[k]? = some x → (w0 ++ [q])[k]? = some x := fun k x h => by
    rw [List.getElem?_append_left (List.getElem?_eq_some_iff.mp h).1]; exact h
  have lst : (w0 ++ [q])[w0.length]? = some q := by rw [List.getElem?_append_right (Nat.le_refl _), Nat.sub_self]; rfl
  have apart : ∀ (k : Nat) (x : Nat × va_E), w0[k]? = some x → x.1 < H.size ∧ ¬ va_A [q] H.size x.1 := by
    intro k x hx
    have hl := (hP k x (lft k x hx)).lt
    refine ⟨hl, fun h => ?_⟩
    rcases h with ⟨k2, e, h⟩ | h
    · have hk2 : k2 = 0 := by
        have := (List.getElem?_eq_some_iff.mp h).1
        simpa using this
      subst hk2
      have e9 : q = (x.1, e) := Option.some.inj h
      have := hD.1 k w0.length x q (lft k x hx) lst (by rw [e9])
      have := (List.getElem?_eq_some_iff.mp hx).1
      omega
    · omega
  refine ⟨va_P.app (fun k x hx => (hP k x (lft k x hx)).kept (hk x.1 (apart k x hx).1 (apart k x hx).2)) hP1, va_D.app ⟨fun i j x y hx hy hxy => hD.1 i j x y (lft i x hx) (lft j y hy) hxy, fun k x hx => hD.2 k x (lft k x hx)⟩ (hD1.weaken (fun _ _ _ h => hF _ h)) (fun i j x y hx hy hxy => ?_), hS, hK, hA, hN⟩
  exact (apart i x hx).2 (by rw [hxy]; exact hD1.2 j y hy)
theorem w_lastP (hNP : NP N) {w0 : va_W} {q : Nat × va_E} (hw : Wd N D tys A s (w0 ++ [q]) H locs) : Wd N D tys A s [q] H locs := by
  obtain ⟨hP, hD, hS0, hK, hA, hN⟩ := hw
  have lst : ∀ (k : Nat) (x : Nat × va_E), [q][k]? = some x → (w0 ++ [q])[w0.length + k]? = some x := fun k x h => by
    rw [List.getElem?_append_right (by omega), Nat.add_sub_cancel_left]; exact h
  exact ⟨fun k x hx => hP _ x (lst k x hx), ⟨fun i j x y hx hy hxy => by have := hD.1 _ _ x y (lst i x hx) (lst j y hy) hxy; omega, fun k x hx => hD.2 _ x (lst k x hx)⟩, hS0, hK, hA, hN⟩
variable {y : MethodName} {bytes : ByteArray} {maxL n index b mc ms : Nat} {ws : List Cond} {rm : Room} {C host : String} {As : List Value}
theorem r_ctor {S : Type} {wf : S → va_W} {post : S → Prop} {w0 : va_W} {e0 : va_E} (X : CallFix p m c cc nL s args Ts own) (hNP : NP N) (hM : Kc N D tys l y ws rm (.ref b :: As) [(b, e0)] wf post mc ms) (cw : CallB R s args own index y bytes maxL none ws rm mc ms n ∧ y.name = "<init>" ∧ (Cond.instanceMethod y).before args s = true) (hw : Wd N D tys A s (w0 ++ [(b, e0)]) H locs) (hn : As.length = n) (hl : ls.size = nL) (hst : st = As.reverse ++ .ref b :: rest) (hroom : (rest.map fun v => v.category).sum ≤ 8) (hdg : decode cc pc = .ok (.invokespecial index, 3)) (hf : cells + mc ≤ R.cells ∧ slots + ms ≤ R.slots)
    (kk : ∀ (u : S) (H1 : Heap) (locs1 : List Loc), post u → Wd N D tys A s (w0 ++ wf u) H1 locs1 → W p l e R s m args below meth c H1 locs1 (cells + mc) (slots + ms) QQ (F0 m (pc + 3) ls rest)) : W p l e R s m args below meth c H locs cells slots QQ (F0 m pc ls st) := by
  have hw1 := w_lastP hNP hw
  refine va_callv (va_runI (As := As) (rest := rest) X (hM H.size) cw ⟨w_blind hNP, w_pre hNP hw1 _⟩ rfl hn hl hst (lv_room hroom) hdg hf) hw.2.2.1 (fun q _ h => w_free hw1 q h) (w_free hw1) (fun u t H1 locs1 ht hvm hq hB hz1 hk1 hS1 => ?_)
  exact kk u H1 locs1 hq (w_last hw ht hB hk1 hS1 (w_free hw1))
theorem r_ctorN {S : Type} {wf : S → va_W} {post : S → Prop} {w0 : va_W} {e0 : va_E} (X : CallFix p m c cc nL s args Ts own) (hNP : NP N) (hM : Kc N D tys l y ws rm (.ref b :: As) [(b, e0)] wf post mc ms) (cw : va_CN R s args own index y host bytes maxL none ws rm mc ms n ∧ y.name = "<init>" ∧ (Cond.instanceMethod y).before args s = true) (hw : Wd N D tys A s (w0 ++ [(b, e0)]) H locs) (hn : As.length = n) (hl : ls.size = nL) (hst : st = As.reverse ++ .ref b :: rest) (hroom : (rest.map fun v => v.category).sum ≤ 8) (hdg : decode cc pc = .ok (.invokespecial index, 3)) (hf : cells + mc ≤ R.cells ∧ slots + ms ≤ R.slots)
    (kk : ∀ (u : S) (H1 : Heap) (locs1 : List Loc), post u → Wd N D tys A s (w0 ++ wf u) H1 locs1 → W p l e R s m args below meth c H1 locs1 (cells + mc) (slots + ms) QQ (F0 m (pc + 3) ls rest)) : W p l e R s m args below meth c H locs cells slots QQ (F0 m pc ls st) := by
  have hw1 := w_lastP hNP hw
  refine va_callv (va_runIN (As := As) (rest := rest) X (hM H.size) cw ⟨w_blind hNP, w_pre hNP hw1 _⟩ rfl hn hl hst (lv_room hroom) hdg hf) hw.2.2.1 (fun q _ h => w_free hw1 q h) (w_free hw1) (fun u t H1 locs1 ht hvm hq hB hz1 hk1 hS1 => ?_)
  exact kk u H1 locs1 hq (w_last hw ht hB hk1 hS1 (w_free hw1))
/-- one cell in the midst of a world is handed to a static callee, which gives it back changed -/
theorem r_cellS {S : Type} {ef : S → va_E} {post : S → Prop} {e0 : va_E} {q0 : Nat} (X : CallFix p m c cc nL s args Ts own) (hNP : NP N) (hM : Kc N D tys l y ws rm As [(b, e0)] (fun u => [(b, ef u)]) post 0 0) (cw : CallB R s args own index y bytes maxL none ws rm 0 0 n ∧ (Cond.static y).before args s = true) (hw : Wd N D tys A s w H locs) (he : w[q0]? = some (b, e0)) (hn : As.length = n) (hl : ls.size = nL) (hst : st = As.reverse ++ rest) (hroom : (rest.map fun v => v.category).sum ≤ 8) (hdg : decode cc pc = .ok (.invokestatic index, 3)) (hf : cells + 0 ≤ R.cells ∧ slots + 0 ≤ R.slots)
    (kk : ∀ (u : S) (H1 : Heap) (locs1 : List Loc), post u → Wd N D tys A s (w.set q0 (b, ef u)) H1 locs1 → W p l e R s m args below meth c H1 locs1 cells slots QQ (F0 m (pc + 3) ls rest)) : W p l e R s m args below meth c H locs cells slots QQ (F0 m pc ls st) := by
  obtain ⟨hP, hD, hS0, hK, hA, hN⟩ := id hw
  have one : ∀ (k : Nat) (x : Nat × va_E), [(b, e0)][k]? = some x → k = 0 ∧ x = (b, e0) := fun k x h => by
    have h0 : k < 1 := (List.getElem?_eq_some_iff.mp h).1
    have h0 : k = 0 := by omega
    subst h0
    exact ⟨rfl, (Option.some.inj h).symm⟩
  have hw1 : Wd N D tys A s [(b, e0)] H locs := ⟨fun k x hx => by rw [(one k x hx).2]; exact hP q0 _ he, ⟨fun i j x y hx hy _ => by rw [(one i x hx).1, (one j y hy).1], fun k x hx => by rw [(one k x hx).2]; exact hD.2 q0 _ he⟩, hS0, hK, hA, hN⟩
  refine va_callv (va_runS (As := As) (rest := rest) X (hM H.size) cw ⟨w_blind hNP, w_pre hNP hw1 _⟩ rfl hn hl hst (lv_room hroom) hdg hf) hw.2.2.1 (fun q _ h => w_free hw1 q h) (w_free hw1) (fun u t H1 locs1 ht hvm hq hB hz1 hk1 hS1 => ?_)
  obtain ⟨hP1, hK1, hD1⟩ := hB
  rw [ht] at hP1
  refine kk u H1 locs1 hq ⟨fun k x hx => ?_, hD.set he, hS1, hK, hA, hN⟩
  by_cases e : k = q0
  · subst e
    rw [List.getElem?_set_self (List.getElem?_eq_some_iff.mp he).1] at hx
    cases hx
    exact hP1 0 _ rfl
  · rw [List.getElem?_set_ne (Ne.symm e)] at hx
    have hl := (hP k x hx).lt
    refine (hP k x hx).kept (hk1 x.1 hl (fun h => ?_))
    rcases h with ⟨k2, e2, h⟩ | h
    · exact e (hD.1 k q0 x _ hx he (by rw [← (congrArg Prod.fst (one k2 _ h).2)]))
    · omega
end Ctor
