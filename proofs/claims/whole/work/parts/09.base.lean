abbrev vwCl : List vw_C := [(RX0, TX0, 9), (RX1, TX1, 12), (RX2, TX2, 3), (RX3, TX3, 18), (RX4, TX4, 2), (RX5, TX5, 6), (RX6, TX6, 8), (RX8, TX8, 10), (RX9, TX9, 62)]
/-! my own layer: a state as registers and rows; a world as a function of it; contracts over whole worlds -/
abbrev Sg : Type := (Nat → Int32) × (Nat → Nat → Int32) × (Nat → Nat → Int64)
def gI (M : Sg) (k : Nat) : Int32 := M.1 k
def gA (M : Sg) (a : Nat) : Nat → Int32 := M.2.1 a
def gJ (M : Sg) (a : Nat) : Nat → Int64 := M.2.2 a
def sI (M : Sg) (k : Nat) (v : Int32) : Sg := (fun j => if j = k then v else M.1 j, M.2)
def sA (M : Sg) (a i : Nat) (v : Int32) : Sg := (M.1, (fun b => if b = a then upd (M.2.1 a) i v else M.2.1 b), M.2.2)
def sJ (M : Sg) (a i : Nat) (v : Int64) : Sg := (M.1, M.2.1, fun b => if b = a then vp_updL (M.2.2 a) i v else M.2.2 b)
def sR (M : Sg) (a : Nat) (f : Nat → Int32) : Sg := (M.1, (fun b => if b = a then f else M.2.1 b), M.2.2)
/-- the world w, from the method's start s to the heap H -/
def Wd (N : (Nat → Prop) → State → Prop) (D : va_G) (tys : List (ClassId × FieldType)) (A : Nat → Prop) (s : State) (w : va_W) (H : Heap) (locs : List Loc) : Prop :=
  va_P D vwCl w H ∧ va_D A w ∧ va_S A s.heap H locs ∧ va_K D vwCl tys s ∧ (∀ q : Nat, s.heap.size ≤ q → A q) ∧ N A s
def Pr (N : (Nat → Prop) → State → Prop) (D : va_G) (tys : List (ClassId × FieldType)) (w : va_W) (sz : Nat) (U : State) : Prop := U.heap.size = sz ∧ va_P D vwCl w U.heap ∧ va_K D vwCl tys U ∧ va_D (fun _ => True) w ∧ N (va_A w sz) U
def At (D : va_G) (tys : List (ClassId × FieldType)) (wd : Sg → va_W) (A : Nat → Prop) (u : Sg) (t : State) : Prop := va_P D vwCl (wd u) t.heap ∧ va_K D vwCl tys t ∧ va_D A (wd u)
def NP (N : (Nat → Prop) → State → Prop) : Prop := (∀ (A B : Nat → Prop) (s U : State), s.WarmedH U.vm → (∀ q : Nat, q < s.heap.size → ¬ A q → U.heap[q]? = s.heap[q]?) → (∀ q : Nat, B q → A q) → N A s → N B U) ∧ (∀ (A : Nat → Prop) (u U : State), u.vm = U.vm → u.heap = U.heap → N A u → N A U)
abbrev Qi (D : va_G) (tys : List (ClassId × FieldType)) (wd : Sg → va_W) (A : Nat → Prop) (Q : Sg → Int32 → Prop) : Array Value → State → Outcome → State → Prop := va_Qi (fun r u => Q u r) (At D tys wd A) A
abbrev Qv (D : va_G) (tys : List (ClassId × FieldType)) (wd : Sg → va_W) (A : Nat → Prop) (Q : Sg → Prop) : Array Value → State → Outcome → State → Prop := va_Qv (fun u => Q u) (At D tys wd A) A
abbrev Qq (D : va_G) (tys : List (ClassId × FieldType)) (wd : Sg → va_W) (ad : Nat → Nat) (A : Nat → Prop) (Q : Sg → Option Nat → Prop) : Array Value → State → Outcome → State → Prop := va_Qq (fun r u => ∃ j : Option Nat, r = j.map ad ∧ Q u j) (At D tys wd A) A
def Ki (N : (Nat → Prop) → State → Prop) (D : va_G) (tys : List (ClassId × FieldType)) (wd : Sg → va_W) (l : Launch) (y : MethodName) (ws : List Cond) (rm : Room) (av : List Value) (M : Sg) (Q : Sg → Int32 → Prop) : Prop :=
  ∀ sz : Nat, Met l y ws rm (va_Pc av (Pr N D tys (wd M) sz)) (Qi D tys wd (va_A (wd M) sz) Q) 0 0 (va_A (wd M) sz)
def Kv (N : (Nat → Prop) → State → Prop) (D : va_G) (tys : List (ClassId × FieldType)) (wd : Sg → va_W) (l : Launch) (y : MethodName) (ws : List Cond) (rm : Room) (av : List Value) (M : Sg) (Q : Sg → Prop) : Prop :=
  ∀ sz : Nat, Met l y ws rm (va_Pc av (Pr N D tys (wd M) sz)) (Qv D tys wd (va_A (wd M) sz) Q) 0 0 (va_A (wd M) sz)
def Kq (N : (Nat → Prop) → State → Prop) (D : va_G) (tys : List (ClassId × FieldType)) (wd : Sg → va_W) (ad : Nat → Nat) (l : Launch) (y : MethodName) (ws : List Cond) (rm : Room) (av : List Value) (M : Sg) (Q : Sg → Option Nat → Prop) : Prop :=
  ∀ sz : Nat, Met l y ws rm (va_Pc av (Pr N D tys (wd M) sz)) (Qq D tys wd ad (va_A (wd M) sz) Q) 0 0 (va_A (wd M) sz)
section GenA
variable {N : (Nat → Prop) → State → Prop} {D : va_G} {tys : List (ClassId × FieldType)} {wd : Sg → va_W} {l : Launch} {y : MethodName} {ws ws' : List Cond} {rm : Room} {av : List Value} {M : Sg}
theorem ofW_g {cc : ByteArray} {maxL : Nat} {ret : Option FieldType} {Qc : (Nat → Prop) → Array Value → State → Outcome → State → Prop} (hy : plainName y.cls = true) (hw : ws = Cond.code y cc maxL ret :: ws') (hlen : (lg_sl av).length ≤ maxL)
    (body : ∀ (p : Program) (e : Env) (s : State) (m : MethodId) (args : Array Value) (below : List Frame) (meth : Method) (c : Code) (A : Nat → Prop) (ls : Array Slot), CallFix p m c cc maxL s args ws y.cls → meth.sig.returnType = ret → meth.locks = false → Wd N D tys A s (wd M) s.heap [] → lv_has ls maxL (lv_args 0 av) →
      W p l e rm s m args below meth c s.heap [] 0 0 (MQ below (Qc A) args s 0 0 A) (F0 m 0 ls [])) :
    ∀ sz : Nat, Met l y ws rm (va_Pc av (Pr N D tys (wd M) sz)) (Qc (va_A (wd M) sz)) 0 0 (va_A (wd M) sz) := by
  intro sz
  refine Met.ofW (cc := cc) (maxL := maxL) (ret := ret) hy hw ?_
  intro p e s m args below meth c s₁ B hml hv
  obtain ⟨rfl, hsz, hP, hK, hD0, hN⟩ := hv
  subst hsz
  have hD := hD0.self (sz := s.heap.size)
  have hl := lv_entry av (n := maxL) hlen
  rw [lg_entry_eq]
  exact body p e s m _ below meth c (va_A (wd M) s.heap.size) _ ⟨B.exec, B.bytes, hml, findClass_of_methodNamed B.named, atoms_spec (ws := ws) B.pre⟩ B.returns B.notSynchronized ⟨hP, hD, va_S.rf, hK, fun q h => Or.inr h, hN⟩ hl
end GenA
section GenB
variable {p : Program} {l : Launch} {e : Env} {R : Room} {s : State} {m : MethodId} {args : Array Value} {below : List Frame} {meth : Method} {c : Code} {H : Heap} {locs : List Loc} {QQ : State → Prop} {cells slots : Nat}
variable {cc : ByteArray} {pc nL : Nat} {ls : Array Slot} {rest st : List Value} {N : (Nat → Prop) → State → Prop} {D : va_G} {A : Nat → Prop} {a : Nat} {tys : List (ClassId × FieldType)} {w w' : va_W} {wd : Sg → va_W} {Ts : List Cond} {own : String} {M : Sg} {ad : Nat → Nat}
theorem r_ret {v : Int32} {Q : Sg → Int32 → Prop} (X : CallFix p m c cc nL s args Ts own) (hr : meth.sig.returnType = some .int) (hlk : meth.locks = false) (hw : Wd N D tys A s (wd M) H locs) (hq : Q M v) (hdg : decode cc pc = .ok (.ireturn, 1)) :
    W p l e R s m args below meth c H locs 0 0 (MQ below (Qi D tys wd A Q) args s 0 0 A) (F0 m pc ls [.int v]) := by
  obtain ⟨hP, hD, hS, hK, hA, hN⟩ := hw
  exact W.iret X.1 X.2.1 hr (fun t ht hW => ⟨⟨v, M, rfl, hq, by rw [ht]; exact hP, va_K.moved hW.alike hK, hD⟩, hS.F ht⟩) hS.2.2 hdg hlk
theorem r_zret {v : Int32} {Q : Sg → Int32 → Prop} (X : CallFix p m c cc nL s args Ts own) (hr : meth.sig.returnType = some .boolean) (hlk : meth.locks = false) (hw : Wd N D tys A s (wd M) H locs) (hn : narrow .boolean (.int v) = .int v) (hq : Q M v) (hdg : decode cc pc = .ok (.ireturn, 1)) :
    W p l e R s m args below meth c H locs 0 0 (MQ below (Qi D tys wd A Q) args s 0 0 A) (F0 m pc ls [.int v]) := by
  obtain ⟨hP, hD, hS, hK, hA, hN⟩ := hw
  exact W.zret X.1 X.2.1 hr hn (fun t ht hW => ⟨⟨v, M, rfl, hq, by rw [ht]; exact hP, va_K.moved hW.alike hK, hD⟩, hS.F ht⟩) hS.2.2 hdg hlk
theorem r_nret {ty : FieldType} {v : Int32} {Q : Sg → Int32 → Prop} (X : CallFix p m c cc nL s args Ts own) (hr : meth.sig.returnType = some ty) (hlk : meth.locks = false) (hw : Wd N D tys A s (wd M) H locs) (hn : narrow ty (.int v) = .int v) (hq : Q M v) (hdg : decode cc pc = .ok (.ireturn, 1)) :
    W p l e R s m args below meth c H locs 0 0 (MQ below (Qi D tys wd A Q) args s 0 0 A) (F0 m pc ls [.int v]) := by
  obtain ⟨hP, hD, hS, hK, hA, hN⟩ := hw
  exact W.zret X.1 X.2.1 hr hn (fun t ht hW => ⟨⟨v, M, rfl, hq, by rw [ht]; exact hP, va_K.moved hW.alike hK, hD⟩, hS.F ht⟩) hS.2.2 hdg hlk
theorem r_vret {Q : Sg → Prop} (X : CallFix p m c cc nL s args Ts own) (hr : meth.sig.returnType = none) (hlk : meth.locks = false) (hw : Wd N D tys A s (wd M) H locs) (hq : Q M) (hdg : decode cc pc = .ok (.return_, 1)) :
    W p l e R s m args below meth c H locs 0 0 (MQ below (Qv D tys wd A Q) args s 0 0 A) (F0 m pc ls []) := by
  obtain ⟨hP, hD, hS, hK, hA, hN⟩ := hw
  exact W.vret X.1 X.2.1 hr (fun t ht hW => ⟨⟨M, rfl, hq, by rw [ht]; exact hP, va_K.moved hW.alike hK, hD⟩, hS.F ht⟩) hS.2.2 hdg hlk
theorem r_qretN {rt : String} {Q : Sg → Option Nat → Prop} (X : CallFix p m c cc nL s args Ts own) (hr : meth.sig.returnType = some (.object rt)) (hlk : meth.locks = false) (hw : Wd N D tys A s (wd M) H locs) (hq : Q M none) (hdg : decode cc pc = .ok (.areturn, 1)) :
    W p l e R s m args below meth c H locs 0 0 (MQ below (Qq D tys wd ad A Q) args s 0 0 A) (F0 m pc ls [.null]) := by
  obtain ⟨hP, hD, hS, hK, hA, hN⟩ := hw
  exact W.aret X.1 X.2.1 hr (Or.inl ⟨rt, rfl⟩) (Or.inl rfl) (fun t ht hW => ⟨⟨none, M, rfl, ⟨none, rfl, hq⟩, by rw [ht]; exact hP, va_K.moved hW.alike hK, hD⟩, hS.F ht⟩) hS.2.2 hdg hlk
theorem r_qret {rt : String} {j : Nat} {Q : Sg → Option Nat → Prop} (X : CallFix p m c cc nL s args Ts own) (hr : meth.sig.returnType = some (.object rt)) (hlk : meth.locks = false) (hw : Wd N D tys A s (wd M) H locs) (hq : Q M (some j)) (hdg : decode cc pc = .ok (.areturn, 1)) :
    W p l e R s m args below meth c H locs 0 0 (MQ below (Qq D tys wd ad A Q) args s 0 0 A) (F0 m pc ls [.ref (ad j)]) := by
  obtain ⟨hP, hD, hS, hK, hA, hN⟩ := hw
  exact W.aret X.1 X.2.1 hr (Or.inl ⟨rt, rfl⟩) (Or.inr ⟨_, rfl⟩) (fun t ht hW => ⟨⟨some (ad j), M, rfl, ⟨some j, rfl, hq⟩, by rw [ht]; exact hP, va_K.moved hW.alike hK, hD⟩, hS.F ht⟩) hS.2.2 hdg hlk
/-- a field is read -/
theorem r_gf {C : String} {T : u_T} {NN ci index : Nat} {v : Value} {fs : List Value} (X : CallFix p m c cc nL s args Ts own) (hin : ∀ w ∈ u_ws C T NN, w ∈ Ts) (hw : Wd N D tys A s w H locs) (q0 : Nat) (he : w[q0]? = some (a, .inr (ci, fs))) (hc : vwCl[ci]? = some (C, T, NN)) (k : Nat) (hk : k < NN)
    (hlink : (Cond.fieldLink own index C (T k).2.1 (T k).2.2.1).before args s = true) (hTC : (T k).1 = C) (hv : fs[k]? = some v) (hdg : decode cc pc = .ok (.getfield index, 3))
    (kk : W p l e R s m args below meth c H locs cells slots QQ (F0 m (pc + 3) ls (v :: rest))) : W p l e R s m args below meth c H locs cells slots QQ (F0 m pc ls (.ref a :: rest)) := by
  obtain ⟨hP, hD, hS, hK, hA, hN⟩ := hw
  exact va_get (D := D) (ci := ci) (v := v) (C := C) (T := T) (N := NN) X.1 X.2.1 X.2.2.2.2 hin X.2.2.2.1 hK hP q0 he hc k hk hlink (fun x h9 => by rw [hTC] at h9; exact h9) hv hdg kk
/-- a field is written -/
theorem r_pf {C : String} {T : u_T} {NN ci index : Nat} {v : Value} {fs : List Value} {ty : FieldType} {ty0 : Nat → FieldType} (X : CallFix p m c cc nL s args Ts own) (hin : ∀ w ∈ u_ws C T NN, w ∈ Ts) (hty : ∀ k, k < NN → parseFieldDescriptor (T k).2.2.1 = some (ty0 k)) (hnm : ∀ a, a < NN → ∀ b, b < NN → a ≠ b → (T a).2.1 ≠ (T b).2.1) (hw : Wd N D tys A s w H locs) (q0 : Nat) (he : w[q0]? = some (a, .inr (ci, fs))) (hc : vwCl[ci]? = some (C, T, NN)) (k : Nat) (hk : k < NN)
    (hlink : (Cond.fieldLink own index C (T k).2.1 (T k).2.2.1).before args s = true) (hTC : (T k).1 = C) (hfin : (T k).2.2.2 = false) (hd : parseFieldDescriptor (T k).2.2.1 = some ty) (hn : narrow ty v = v) (hfit : fits ty v = true) (hl : k < fs.length) (hset : w.set q0 (a, .inr (ci, fs.set k v)) = w') (hdg : decode cc pc = .ok (.putfield index, 3))
    (kk : ∀ (H1 : Heap) (locs1 : List Loc), Wd N D tys A s w' H1 locs1 → W p l e R s m args below meth c H1 locs1 cells slots QQ (F0 m (pc + 3) ls rest)) : W p l e R s m args below meth c H locs cells slots QQ (F0 m pc ls (v :: .ref a :: rest)) := by
  obtain ⟨hP, hD, hS, hK, hA, hN⟩ := hw
  subst hset
  exact va_put (D := D) (ci := ci) (v := v) (ty := ty) (C := C) (T := T) (N := NN) X.1 X.2.1 X.2.2.2.2 hin ty0 hty hnm X.2.2.2.1 hK hP hD hS q0 he hc k hk hlink (fun x h9 => by rw [hTC] at h9; exact h9) hfin hd hn hfit hl hdg (fun H1 locs1 hP hD hS => kk H1 locs1 ⟨hP, hD, hS, hK, hA, hN⟩)
theorem r_ial {cA : ClassId} {n : Nat} {f : Nat → Int32} {i : Int32} (X : CallFix p m c cc nL s args Ts own) (hw : Wd N D tys A s w H locs) (q0 t0 : Nat) (ha : w[q0]? = some (a, .inl (cA, n, .inl f))) (ht : tys[t0]? = some (cA, .int)) (hi : vp_in i n) (hdg : decode cc pc = .ok (.iaload, 1))
    (kk : W p l e R s m args below meth c H locs cells slots QQ (F0 m (pc + 1) ls (.int (f i.toNatClampNeg) :: rest))) : W p l e R s m args below meth c H locs cells slots QQ (F0 m pc ls (.int i :: .ref a :: rest)) := va_iald X.1 X.2.1 hw.2.2.2.1 hw.1 q0 t0 ha ht hi hdg kk
theorem r_zal {cA : ClassId} {n : Nat} {f : Nat → Int32} {i : Int32} (X : CallFix p m c cc nL s args Ts own) (hw : Wd N D tys A s w H locs) (q0 t0 : Nat) (ha : w[q0]? = some (a, .inl (cA, n, .inl f))) (ht : tys[t0]? = some (cA, .boolean)) (hi : vp_in i n) (hdg : decode cc pc = .ok (.baload, 1))
    (kk : W p l e R s m args below meth c H locs cells slots QQ (F0 m (pc + 1) ls (.int (f i.toNatClampNeg) :: rest))) : W p l e R s m args below meth c H locs cells slots QQ (F0 m pc ls (.int i :: .ref a :: rest)) := va_zald X.1 X.2.1 hw.2.2.2.1 hw.1 q0 t0 ha ht hi hdg kk
theorem r_cal {cA : ClassId} {n : Nat} {f : Nat → Int32} {i : Int32} (X : CallFix p m c cc nL s args Ts own) (hw : Wd N D tys A s w H locs) (q0 t0 : Nat) (ha : w[q0]? = some (a, .inl (cA, n, .inl f))) (ht : tys[t0]? = some (cA, .char)) (hi : vp_in i n) (hdg : decode cc pc = .ok (.caload, 1))
    (kk : W p l e R s m args below meth c H locs cells slots QQ (F0 m (pc + 1) ls (.int (f i.toNatClampNeg) :: rest))) : W p l e R s m args below meth c H locs cells slots QQ (F0 m pc ls (.int i :: .ref a :: rest)) := va_cald X.1 X.2.1 hw.2.2.2.1 hw.1 q0 t0 ha ht hi hdg kk
theorem r_lal {cA : ClassId} {n : Nat} {f : Nat → Int64} {i : Int32} (X : CallFix p m c cc nL s args Ts own) (hw : Wd N D tys A s w H locs) (q0 t0 : Nat) (ha : w[q0]? = some (a, .inl (cA, n, .inr (.inl f)))) (ht : tys[t0]? = some (cA, .long)) (hi : vp_in i n) (hdg : decode cc pc = .ok (.laload, 1))
    (kk : W p l e R s m args below meth c H locs cells slots QQ (F0 m (pc + 1) ls (.long (f i.toNatClampNeg) :: rest))) : W p l e R s m args below meth c H locs cells slots QQ (F0 m pc ls (.int i :: .ref a :: rest)) := va_lald X.1 X.2.1 hw.2.2.2.1 hw.1 q0 t0 ha ht hi hdg kk
theorem r_len {cA : ClassId} {x : vp_A} {ty : FieldType} {v : Int32} (X : CallFix p m c cc nL s args Ts own) (hw : Wd N D tys A s w H locs) (q0 t0 : Nat) (ha : w[q0]? = some (a, .inl (cA, x))) (ht : tys[t0]? = some (cA, ty)) (hv : Int32.ofNat x.1 = v) (hdg : decode cc pc = .ok (.arraylength, 1))
    (kk : W p l e R s m args below meth c H locs cells slots QQ (F0 m (pc + 1) ls (.int v :: rest))) : W p l e R s m args below meth c H locs cells slots QQ (F0 m pc ls (.ref a :: rest)) := va_alen X.1 X.2.1 hw.2.2.2.1 hw.1 q0 t0 ha ht hv hdg kk
theorem r_ias {cA : ClassId} {n : Nat} {f : Nat → Int32} {i x : Int32} (X : CallFix p m c cc nL s args Ts own) (hw : Wd N D tys A s w H locs) (q0 t0 : Nat) (ha : w[q0]? = some (a, .inl (cA, n, .inl f))) (ht : tys[t0]? = some (cA, .int)) (hi : vp_in i n) (hset : w.set q0 (a, .inl (cA, n, .inl (upd f i.toNatClampNeg x))) = w') (hdg : decode cc pc = .ok (.iastore, 1))
    (kk : ∀ (H1 : Heap) (locs1 : List Loc), Wd N D tys A s w' H1 locs1 → W p l e R s m args below meth c H1 locs1 cells slots QQ (F0 m (pc + 1) ls rest)) : W p l e R s m args below meth c H locs cells slots QQ (F0 m pc ls (.int x :: .int i :: .ref a :: rest)) := by
  obtain ⟨hP, hD, hS, hK, hA, hN⟩ := hw
  subst hset
  exact va_iast X.1 X.2.1 hK hP hD hS q0 t0 ha ht hi hdg (fun H1 locs1 hP hD hS => kk H1 locs1 ⟨hP, hD, hS, hK, hA, hN⟩)
theorem r_zas {cA : ClassId} {n : Nat} {f : Nat → Int32} {i x : Int32} (X : CallFix p m c cc nL s args Ts own) (hw : Wd N D tys A s w H locs) (q0 t0 : Nat) (ha : w[q0]? = some (a, .inl (cA, n, .inl f))) (ht : tys[t0]? = some (cA, .boolean)) (hi : vp_in i n) (hset : w.set q0 (a, .inl (cA, n, .inl (upd f i.toNatClampNeg (vp_nar .boolean x)))) = w') (hdg : decode cc pc = .ok (.bastore, 1))
    (kk : ∀ (H1 : Heap) (locs1 : List Loc), Wd N D tys A s w' H1 locs1 → W p l e R s m args below meth c H1 locs1 cells slots QQ (F0 m (pc + 1) ls rest)) : W p l e R s m args below meth c H locs cells slots QQ (F0 m pc ls (.int x :: .int i :: .ref a :: rest)) := by
  obtain ⟨hP, hD, hS, hK, hA, hN⟩ := hw
  subst hset
  exact va_zast X.1 X.2.1 hK hP hD hS q0 t0 ha ht hi hdg (fun H1 locs1 hP hD hS => kk H1 locs1 ⟨hP, hD, hS, hK, hA, hN⟩)
theorem r_cas {cA : ClassId} {n : Nat} {f : Nat → Int32} {i x : Int32} (X : CallFix p m c cc nL s args Ts own) (hw : Wd N D tys A s w H locs) (q0 t0 : Nat) (ha : w[q0]? = some (a, .inl (cA, n, .inl f))) (ht : tys[t0]? = some (cA, .char)) (hi : vp_in i n) (hset : w.set q0 (a, .inl (cA, n, .inl (upd f i.toNatClampNeg (vp_nar .char x)))) = w') (hdg : decode cc pc = .ok (.castore, 1))
    (kk : ∀ (H1 : Heap) (locs1 : List Loc), Wd N D tys A s w' H1 locs1 → W p l e R s m args below meth c H1 locs1 cells slots QQ (F0 m (pc + 1) ls rest)) : W p l e R s m args below meth c H locs cells slots QQ (F0 m pc ls (.int x :: .int i :: .ref a :: rest)) := by
  obtain ⟨hP, hD, hS, hK, hA, hN⟩ := hw
  subst hset
  exact va_cast X.1 X.2.1 hK hP hD hS q0 t0 ha ht hi hdg (fun H1 locs1 hP hD hS => kk H1 locs1 ⟨hP, hD, hS, hK, hA, hN⟩)
theorem r_las {cA : ClassId} {n : Nat} {f : Nat → Int64} {i : Int32} {x : Int64} (X : CallFix p m c cc nL s args Ts own) (hw : Wd N D tys A s w H locs) (q0 t0 : Nat) (ha : w[q0]? = some (a, .inl (cA, n, .inr (.inl f)))) (ht : tys[t0]? = some (cA, .long)) (hi : vp_in i n) (hset : w.set q0 (a, .inl (cA, n, .inr (.inl (vp_updL f i.toNatClampNeg x)))) = w') (hdg : decode cc pc = .ok (.lastore, 1))
    (kk : ∀ (H1 : Heap) (locs1 : List Loc), Wd N D tys A s w' H1 locs1 → W p l e R s m args below meth c H1 locs1 cells slots QQ (F0 m (pc + 1) ls rest)) : W p l e R s m args below meth c H locs cells slots QQ (F0 m pc ls (.long x :: .int i :: .ref a :: rest)) := by
  obtain ⟨hP, hD, hS, hK, hA, hN⟩ := hw
  subst hset
  exact va_last X.1 X.2.1 hK hP hD hS q0 t0 ha ht hi hdg (fun H1 locs1 hP hD hS => kk H1 locs1 ⟨hP, hD, hS, hK, hA, hN⟩)
theorem w_free (hw : Wd N D tys A s w H locs) : ∀ q : Nat, va_A w H.size q → A q := fun q h => h.elim (fun ⟨k, _, hk⟩ => hw.2.1.2 k _ hk) (fun hq => hw.2.2.2.2.1 q (Nat.le_trans hw.2.2.1.1 hq))
theorem w_blind (hNP : NP N) {av : List Value} {sz : Nat} : FrameBlind (va_Pc av (Pr N D tys w sz)) := fun a U g mk q => by
  obtain ⟨q0, q1, qP, qK, qD, qN⟩ := q
  exact ⟨q0, q1, qP, va_K.moved (u := U) (U := U.calling g mk a) (Vm.Alike.refl U.vm) qK, qD, hNP.2 _ U _ rfl rfl qN⟩
theorem w_pre (hNP : NP N) (hw : Wd N D tys A s w H locs) (av : List Value) : ∀ U : State, U.heap = H → s.WarmedH U.vm → va_Pc av (Pr N D tys w H.size) av.toArray U := fun U hU hW =>
  ⟨rfl, by rw [hU], by rw [hU]; exact hw.1, va_K.moved hW.alike hw.2.2.2.1, hw.2.1.weaken (fun _ _ _ _ => trivial), hNP.1 A _ s U hW (fun q h1 h2 => by rw [hU]; exact hw.2.2.1.2.1 q h1 h2) (w_free hw) hw.2.2.2.2.2⟩
theorem w_back {t : State} {H1 : Heap} {locs1 : List Loc} {u : Sg} (hw : Wd N D tys A s w H locs) (ht : t.heap = H1) (hB : At D tys wd (va_A w H.size) u t) (hS : va_S A s.heap H1 locs1) : Wd N D tys A s (wd u) H1 locs1 := by
  obtain ⟨hP1, hK1, hD1⟩ := hB
  rw [ht] at hP1
  exact ⟨hP1, hD1.weaken (fun _ _ _ h => w_free hw _ h), hS, hw.2.2.2.1, hw.2.2.2.2.1, hw.2.2.2.2.2⟩
variable {y : MethodName} {bytes : ByteArray} {maxL n index ci b q0 : Nat} {ret : Option FieldType} {ws : List Cond} {rm : Room} {C host : String} {T : u_T} {NN : Nat} {As : List Value} {fs : List Value}
theorem r_Vi {Q : Sg → Int32 → Prop} (X : CallFix p m c cc nL s args Ts own) (hNP : NP N) (hM : Ki N D tys wd l y ws rm (.ref b :: As) M Q) (cw : CallW R s args own C index y bytes maxL ret ws rm 0 0 n) (hw : Wd N D tys A s (wd M) H locs) (q0 ci : Nat) (hc : vwCl[ci]? = some (C, T, NN)) (he : (wd M)[q0]? = some (b, .inr (ci, fs))) (hn : As.length = n) (hl : ls.size = nL) (hst : st = As.reverse ++ .ref b :: rest) (hroom : (rest.map fun v => v.category).sum ≤ 8) (hdg : decode cc pc = .ok (.invokevirtual index, 3))
    (kk : ∀ (r : Int32) (u : Sg) (H1 : Heap) (locs1 : List Loc), Q u r → Wd N D tys A s (wd u) H1 locs1 → W p l e R s m args below meth c H1 locs1 0 0 QQ (F0 m (pc + 3) ls (.int r :: rest))) : W p l e R s m args below meth c H locs 0 0 QQ (F0 m pc ls st) := by
  refine va_calli (va_runV (As := As) (rest := rest) X (hM H.size) cw ⟨w_blind hNP, va_recv hw.2.2.2.1 hw.1 hc he, w_pre hNP hw _⟩ rfl hn hl hst (lv_room hroom) hdg ⟨Nat.zero_le _, Nat.zero_le _⟩) hw.2.2.1 (fun q _ h => w_free hw q h) (w_free hw) (fun r u t H1 locs1 ht hvm hq hB hz1 hk1 hS1 => ?_)
  exact kk r u H1 locs1 hq (w_back hw ht hB hS1)
theorem r_ViR {Q : Sg → Int32 → Prop} (X : CallFix p m c cc nL s args Ts own) (hNP : NP N) (hM : Ki N D tys wd l y ws rm (.ref b :: As) M Q) (cw : CallW R s args own C index y bytes maxL ret ws rm 0 0 n) (hw : Wd N D tys A s (wd M) H locs) (hrecv : ∃ cellB : Cell, H[b]? = some cellB ∧ cellB.vm.isStatics = false ∧ s.vm.findClass C = some cellB.cls) (hn : As.length = n) (hl : ls.size = nL) (hst : st = As.reverse ++ .ref b :: rest) (hroom : (rest.map fun v => v.category).sum ≤ 8) (hdg : decode cc pc = .ok (.invokevirtual index, 3))
    (kk : ∀ (r : Int32) (u : Sg) (H1 : Heap) (locs1 : List Loc), Q u r → Wd N D tys A s (wd u) H1 locs1 → W p l e R s m args below meth c H1 locs1 0 0 QQ (F0 m (pc + 3) ls (.int r :: rest))) : W p l e R s m args below meth c H locs 0 0 QQ (F0 m pc ls st) := by
  refine va_calli (va_runV (As := As) (rest := rest) X (hM H.size) cw ⟨w_blind hNP, hrecv, w_pre hNP hw _⟩ rfl hn hl hst (lv_room hroom) hdg ⟨Nat.zero_le _, Nat.zero_le _⟩) hw.2.2.1 (fun q _ h => w_free hw q h) (w_free hw) (fun r u t H1 locs1 ht hvm hq hB hz1 hk1 hS1 => ?_)
  exact kk r u H1 locs1 hq (w_back hw ht hB hS1)
theorem r_Sv {Q : Sg → Prop} (X : CallFix p m c cc nL s args Ts own) (hNP : NP N) (hM : Kv N D tys wd l y ws rm As M Q) (cw : CallB R s args own index y bytes maxL ret ws rm 0 0 n ∧ (Cond.static y).before args s = true) (hw : Wd N D tys A s (wd M) H locs) (hn : As.length = n) (hl : ls.size = nL) (hst : st = As.reverse ++ rest) (hroom : (rest.map fun v => v.category).sum ≤ 8) (hdg : decode cc pc = .ok (.invokestatic index, 3))
    (kk : ∀ (u : Sg) (H1 : Heap) (locs1 : List Loc), Q u → Wd N D tys A s (wd u) H1 locs1 → W p l e R s m args below meth c H1 locs1 0 0 QQ (F0 m (pc + 3) ls rest)) : W p l e R s m args below meth c H locs 0 0 QQ (F0 m pc ls st) := by
  refine va_callv (va_runS (As := As) (rest := rest) X (hM H.size) cw ⟨w_blind hNP, w_pre hNP hw _⟩ rfl hn hl hst (lv_room hroom) hdg ⟨Nat.zero_le _, Nat.zero_le _⟩) hw.2.2.1 (fun q _ h => w_free hw q h) (w_free hw) (fun u t H1 locs1 ht hvm hq hB hz1 hk1 hS1 => ?_)
  exact kk u H1 locs1 hq (w_back hw ht hB hS1)
theorem r_Vv {Q : Sg → Prop} (X : CallFix p m c cc nL s args Ts own) (hNP : NP N) (hM : Kv N D tys wd l y ws rm (.ref b :: As) M Q) (cw : CallW R s args own C index y bytes maxL ret ws rm 0 0 n) (hw : Wd N D tys A s (wd M) H locs) (q0 ci : Nat) (hc : vwCl[ci]? = some (C, T, NN)) (he : (wd M)[q0]? = some (b, .inr (ci, fs))) (hn : As.length = n) (hl : ls.size = nL) (hst : st = As.reverse ++ .ref b :: rest) (hroom : (rest.map fun v => v.category).sum ≤ 8) (hdg : decode cc pc = .ok (.invokevirtual index, 3))
    (kk : ∀ (u : Sg) (H1 : Heap) (locs1 : List Loc), Q u → Wd N D tys A s (wd u) H1 locs1 → W p l e R s m args below meth c H1 locs1 0 0 QQ (F0 m (pc + 3) ls rest)) : W p l e R s m args below meth c H locs 0 0 QQ (F0 m pc ls st) := by
  refine va_callv (va_runV (As := As) (rest := rest) X (hM H.size) cw ⟨w_blind hNP, va_recv hw.2.2.2.1 hw.1 hc he, w_pre hNP hw _⟩ rfl hn hl hst (lv_room hroom) hdg ⟨Nat.zero_le _, Nat.zero_le _⟩) hw.2.2.1 (fun q _ h => w_free hw q h) (w_free hw) (fun u t H1 locs1 ht hvm hq hB hz1 hk1 hS1 => ?_)
  exact kk u H1 locs1 hq (w_back hw ht hB hS1)
theorem r_Vq {Q : Sg → Option Nat → Prop} (X : CallFix p m c cc nL s args Ts own) (hNP : NP N) (hM : Kq N D tys wd ad l y ws rm (.ref b :: As) M Q) (cw : CallW R s args own C index y bytes maxL ret ws rm 0 0 n) (hw : Wd N D tys A s (wd M) H locs) (q0 ci : Nat) (hc : vwCl[ci]? = some (C, T, NN)) (he : (wd M)[q0]? = some (b, .inr (ci, fs))) (hn : As.length = n) (hl : ls.size = nL) (hst : st = As.reverse ++ .ref b :: rest) (hroom : (rest.map fun v => v.category).sum ≤ 8) (hdg : decode cc pc = .ok (.invokevirtual index, 3))
    (kN : ∀ (u : Sg) (H1 : Heap) (locs1 : List Loc), Q u none → Wd N D tys A s (wd u) H1 locs1 → W p l e R s m args below meth c H1 locs1 0 0 QQ (F0 m (pc + 3) ls (.null :: rest)))
    (kk : ∀ (j : Nat) (u : Sg) (H1 : Heap) (locs1 : List Loc), Q u (some j) → Wd N D tys A s (wd u) H1 locs1 → W p l e R s m args below meth c H1 locs1 0 0 QQ (F0 m (pc + 3) ls (.ref (ad j) :: rest))) : W p l e R s m args below meth c H locs 0 0 QQ (F0 m pc ls st) := by
  refine va_callq (va_runV (As := As) (rest := rest) X (hM H.size) cw ⟨w_blind hNP, va_recv hw.2.2.2.1 hw.1 hc he, w_pre hNP hw _⟩ rfl hn hl hst (lv_room hroom) hdg ⟨Nat.zero_le _, Nat.zero_le _⟩) hw.2.2.1 (fun q _ h => w_free hw q h) (w_free hw) (fun r u t H1 locs1 ht hvm hq hB hz1 hk1 hS1 => ?_)
  obtain ⟨j, rfl, hq⟩ := hq
  cases j with
  | none => exact kN u H1 locs1 hq (w_back hw ht hB hS1)
  | some j => exact kk j u H1 locs1 hq (w_back hw ht hB hS1)
theorem r_Si {Q : Sg → Int32 → Prop} (X : CallFix p m c cc nL s args Ts own) (hNP : NP N) (hM : Ki N D tys wd l y ws rm As M Q) (cw : CallB R s args own index y bytes maxL ret ws rm 0 0 n ∧ (Cond.static y).before args s = true) (hw : Wd N D tys A s (wd M) H locs) (hn : As.length = n) (hl : ls.size = nL) (hst : st = As.reverse ++ rest) (hroom : (rest.map fun v => v.category).sum ≤ 8) (hdg : decode cc pc = .ok (.invokestatic index, 3))
    (kk : ∀ (r : Int32) (u : Sg) (H1 : Heap) (locs1 : List Loc), Q u r → Wd N D tys A s (wd u) H1 locs1 → W p l e R s m args below meth c H1 locs1 0 0 QQ (F0 m (pc + 3) ls (.int r :: rest))) : W p l e R s m args below meth c H locs 0 0 QQ (F0 m pc ls st) := by
  refine va_calli (va_runS (As := As) (rest := rest) X (hM H.size) cw ⟨w_blind hNP, w_pre hNP hw _⟩ rfl hn hl hst (lv_room hroom) hdg ⟨Nat.zero_le _, Nat.zero_le _⟩) hw.2.2.1 (fun q _ h => w_free hw q h) (w_free hw) (fun r u t H1 locs1 ht hvm hq hB hz1 hk1 hS1 => ?_)
  exact kk r u H1 locs1 hq (w_back hw ht hB hS1)
theorem r_SNi {Q : Sg → Int32 → Prop} (X : CallFix p m c cc nL s args Ts own) (hNP : NP N) (hM : Ki N D tys wd l y ws rm As M Q) (cw : va_CN R s args own index y host bytes maxL ret ws rm 0 0 n ∧ (Cond.static y).before args s = true ∧ True) (hw : Wd N D tys A s (wd M) H locs) (hn : As.length = n) (hl : ls.size = nL) (hst : st = As.reverse ++ rest) (hroom : (rest.map fun v => v.category).sum ≤ 8) (hdg : decode cc pc = .ok (.invokestatic index, 3))
    (kk : ∀ (r : Int32) (u : Sg) (H1 : Heap) (locs1 : List Loc), Q u r → Wd N D tys A s (wd u) H1 locs1 → W p l e R s m args below meth c H1 locs1 0 0 QQ (F0 m (pc + 3) ls (.int r :: rest))) : W p l e R s m args below meth c H locs 0 0 QQ (F0 m pc ls st) := by
  refine va_calli (va_runSN (As := As) (rest := rest) X (hM H.size) cw ⟨w_blind hNP, w_pre hNP hw _⟩ rfl hn hl hst (lv_room hroom) hdg ⟨Nat.zero_le _, Nat.zero_le _⟩) hw.2.2.1 (fun q _ h => w_free hw q h) (w_free hw) (fun r u t H1 locs1 ht hvm hq hB hz1 hk1 hS1 => ?_)
  exact kk r u H1 locs1 hq (w_back hw ht hB hS1)
end GenB
