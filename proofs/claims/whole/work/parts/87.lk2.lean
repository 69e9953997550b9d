/-! throw new NoSuchElementException("text") -/
section NsThrow
variable {p : Program} {l : Launch} {e : Env} {R : Room} {s : State} {m : MethodId} {args : Array Value} {below : List Frame} {meth : Method} {c : Code} {H : Heap} {locs : List Loc} {cells slots : Nat}
variable {free : Addr → Prop} {ls : Array Slot} {rest : List Value} {Qc : Array Value → State → Outcome → State → Prop} {XC : String → State → State → Prop}
set_option maxHeartbeats 1000000 in
theorem ns_throw {cc : ByteArray} {pc : Nat} (hexec : p.tables.exec = Jvm.exec) (hb : c.code = cc) (hl : l.stackTraces = false) {own text : String} {ik is ic mc ms sa : Nat} {A : Nat → Prop}
    (hown : s.vm.findClass own = some m.cls)
    (hk : (Cond.classLink own ik nsE).before args s = true) (hini : (Cond.initialized nsE).before args s = true) (hstr : vk_R own is text sa s) (hat : ∀ w ∈ nsAt own ic, w.before args s = true)
    (hgood : ∀ w ∈ Cond.classLink own ik nsE :: Cond.initialized nsE :: nsAt own ic, vx_ot w = true)
    (hU : vx_Zq Bundle.tN "UNASSIGNED_STACK" Bundle.steD A s s.heap) (hN : vx_Zq Bundle.tN "SUPPRESSED_SENTINEL" Bundle.listD A s s.heap) (hS : va_S A s.heap H locs) (hsize : ls.size = c.maxLocals)
    (d0 : decode cc pc = .ok (.new ik, 3)) (d3 : decode cc (pc + 3) = .ok (.dup, 1)) (d4 : decode cc (pc + 4) = .ok (.ldc is, 2)) (d6 : decode cc (pc + 6) = .ok (.invokespecial ic, 3)) (d9 : decode cc (pc + 9) = .ok (.athrow, 1))
    (hout : ∀ x ∈ c.exceptionTable.toList, covers x (pc + 9) = false)
    (hRframes : 2 + 3 < R.frames) (hRlocals : (rest.map fun v => v.category).sum + (13 * (2 + 1) + 43) ≤ R.locals) (hRcells : cells + 1 ≤ R.cells) (hRslots : slots + 6 ≤ R.slots) (hlocks : meth.locks = false)
    (hx : ∀ t : State, s.vm.Alike t.vm → H.size ≤ t.heap.size → (∀ q : Nat, q < H.size → t.heap[q]? = H[q]?) → XC nsE s t)
    (hf : ∀ z ∈ locs, free z.base) (hc : cells + 1 ≤ mc) (hs : slots + 6 ≤ ms) :
    W p l e R s m args below meth c H locs cells slots (vx_MQ below Qc XC args s mc ms free) (F0 m pc ls rest) := by
  intro T hT X
  have htr : e.platform.stackTraces = false := (show e.platform.stackTraces = l.stackTraces by rw [X.admits.platform]).trans hl
  have Y := vx_rebase X (R' := { frames := R.frames, locals := R.locals, cells := 1, slots := 6 }) (Nat.le_refl _) (Nat.le_refl _) hRcells hRslots
  obtain ⟨s', hA⟩ : ∃ z, z = (T.setVm s.vm).setFrames (.invoking m args :: below) := ⟨_, rfl⟩
  rw [← hA] at Y
  have hvm : s'.vm = s.vm := by rw [hA]; rfl
  have hhp : s'.heap = H := by rw [hA]; exact hT
  have hW0 : s.WarmedH s'.vm := by rw [hvm]; exact State.WarmedH.refl s
  have hat' : ∀ w ∈ nsAt own ic, w.before args s' = true := fun w hw => vx_ot_at hW0 hvm.symm (hgood w (List.mem_cons_of_mem _ (List.mem_cons_of_mem _ hw))) (hat w hw)
  have hk' : (Cond.classLink own ik nsE).before args s' = true := vx_ot_at hW0 hvm.symm (hgood _ List.mem_cons_self) hk
  have hini' : (Cond.initialized nsE).before args s' = true := vx_ot_at hW0 hvm.symm (hgood _ (List.mem_cons_of_mem _ List.mem_cons_self)) hini
  have hU' : vx_Zq Bundle.tN "UNASSIGNED_STACK" Bundle.steD A s' s'.heap := by rw [hhp]; exact vx_Zq.moved hW0.alike (hU.kept hS.2.1)
  have hN' : vx_Zq Bundle.tN "SUPPRESSED_SENTINEL" Bundle.listD A s' s'.heap := by rw [hhp]; exact vx_Zq.moved hW0.alike (hN.kept hS.2.1)
  have h : ∀ w ∈ nsAll own ic, w.before args s' = true := vx_own hat' (vx_isRefq hU'.1) (vx_isRefq hN'.1) hU'.2.word hN'.2.word
  have hown' : s'.vm.findClass own = some m.cls := by rw [hvm]; exact hown
  have hins : (Cond.instantiable nsE 6).before args s' = true := h _ (by simp [nsAll])
  obtain ⟨vm₁, cX, kX, hfX, hkX, -, -, X₁, st1⟩ := Y.newCold hexec (own := own) (C := nsE) (index := ik) (n := 6) hown' hk' hins hini'
    (g := F0 m pc ls rest) rfl (by rw [hb]; exact d0) (Nat.le_refl _) (Nat.le_refl _)
  generalize hT1 : (T.setVm vm₁).pushCell { cls := cX, slots := kX.instanceTypes.map defaultValue, vm := .none } = T1 at X₁ st1
  have hcat : (Value.ref T.heap.size).category = 1 := rfl
  have hcellA : T1.heap[T.heap.size]? = some (freshCell cX kX) := by rw [← hT1]; exact State.heap_pushCell_size _ _
  have d3' : decode c.code (pc + 3) = .ok (.dup, 1) := by rw [hb]; exact d3
  have d4' : decode c.code (pc + 4) = .ok (.ldc is, 2) := by rw [hb]; exact d4
  have hstr' : vk_R own is text sa s' := vk_R.warm hW0 hstr
  obtain ⟨U, hsteps, hrun, hend, hW, hsame, ce, hce, hO1, hO2⟩ := ns_ctor X₁ hexec htr (own := own) (ic := ic) hown' h (fun x hx => nomatch hx) hfX hkX hcellA (by rw [hhp, hT]; exact Nat.le_refl _) (msg := .ref sa) rfl
    (g := { method := m, pc := pc + 6, locals := ls, stack := .ref sa :: .ref T.heap.size :: .ref T.heap.size :: rest, locked := none }) rfl hsize rfl rfl (rest := rest) rfl
    (by rw [hb]; exact d6) (by rw [hb]; exact d9) hout hRframes (by
      show 2 * (0 : Nat) + ((Value.ref T.heap.size :: rest).map fun v => v.category).sum + (13 * (2 + 1) + 42) ≤ R.locals
      simp only [List.map_cons, List.sum_cons, hcat]; omega) hlocks
  obtain ⟨f1, f2⟩ := vx_frame hsame
  rw [hhp] at f1 f2
  have hWs : s.WarmedH U.vm := State.WarmedH.trans hW0 hW
  have hcl : s.vm.findClass nsE = some ce.cls := by
    have h9 := hO1
    rw [hvm] at h9
    exact h9
  have hall : s.sameButNew ({ U with vm := s.vm } : State) locs mc ms := by
    subst hA
    obtain ⟨e1, e2⟩ := hsame
    rw [State.setFrames_setFrames] at e1
    have h2 : (T.setVm s.vm).sameButNew ({ U with vm := s.vm } : State) [] (0 + 1) (0 + 6) := ⟨e1, e2⟩
    have h3 := X.same.trans h2
    rw [List.append_nil] at h3
    exact h3.mono hc hs
  refine ⟨U, ?_, .threw T.heap.size, hrun, hend, Or.inr ⟨T.heap.size, rfl, nsE, ce, locs, hx U hWs.alike f1 (fun q hq => f2 q hq (fun z hz => nomatch hz)), hce, hO2, hcl, hWs, hall, hf⟩⟩
  refine st1 _ ?_
  show Steps p.tables e below (T1.setTop { method := m, pc := pc + 3, locals := ls, stack := .ref T.heap.size :: rest, locked := none }) _
  jvm_step X₁.here [X₁.here.top, hexec, d3', Value.category]
  exact X₁.ldcString hexec (own := own) (text := text) (index := is) (a := sa) hown' hstr'.1 hstr'.2
    (g := { method := m, pc := pc + 4, locals := ls, stack := .ref T.heap.size :: .ref T.heap.size :: rest, locked := none }) rfl d4' _ hsteps
variable {N : (Nat → Prop) → State → Prop} {D : va_G} {tys : List (ClassId × FieldType)} {wd : Sg → va_W} {A : Nat → Prop} {cc : ByteArray} {pc nL : Nat} {Ts : List Cond} {own : String} {M : Sg}
theorem r_lret {mc ms : Nat} {v : Int32} {Q : Sg → Int32 → Prop} (X : CallFix p m c cc nL s args Ts own) (hr : meth.sig.returnType = some .int) (hlk : meth.locks = false) (hw : Wd N D tys A s (wd M) H locs) (hq : Q M v) (h1 : cells ≤ mc) (h2 : slots ≤ ms) (hdg : decode cc pc = .ok (.ireturn, 1)) :
    W p l e R s m args below meth c H locs cells slots (vx_MQ below (Qi D tys wd A Q) XC args s mc ms A) (F0 m pc ls [.int v]) := by
  obtain ⟨hP, hD, hS, hK, hA, hN⟩ := hw
  refine vx_ret (W.widen (k := mc) (n := ms) h1 h2 ?_)
  exact W.iret X.1 X.2.1 hr (fun t ht hW => ⟨⟨v, M, rfl, hq, by rw [ht]; exact hP, va_K.moved hW.alike hK, hD⟩, hS.F ht⟩) hS.2.2 hdg hlk
end NsThrow
section VOf
variable {N : (Nat → Prop) → State → Prop} {D : va_G} {tys : List (ClassId × FieldType)} {l : Launch} {y : MethodName} {ws ws' : List Cond} {rm : Room} {av : List Value} {w : va_W} {mc ms sz : Nat} {cc : ByteArray} {maxL : Nat} {ret : Option FieldType} {Qc : (Nat → Prop) → Array Value → State → Outcome → State → Prop} {XC : (Nat → Prop) → String → State → State → Prop}
theorem vofW (hy : plainName y.cls = true) (hw : ws = Cond.code y cc maxL ret :: ws') (hlen : (lg_sl av).length ≤ maxL)
    (body : ∀ (p : Program) (e : Env) (s : State) (m : MethodId) (args : Array Value) (below : List Frame) (meth : Method) (c : Code) (A : Nat → Prop) (ls : Array Slot), CallFix p m c cc maxL s args ws y.cls → (∀ x ∈ c.exceptionTable.toList, False) → meth.sig.returnType = ret → meth.locks = false → Wd N D tys A s w s.heap [] → lv_has ls maxL (lv_args 0 av) →
      W p l e rm s m args below meth c s.heap [] 0 0 (vx_MQ below (Qc A) (XC A) args s mc ms A) (F0 m 0 ls [])) : vx_Met l y ws rm (va_Pc av (Pr N D tys w sz)) (Qc (va_A w sz)) (XC (va_A w sz)) mc ms (va_A w sz) := by
  refine vx_ofW (cc := cc) (maxL := maxL) (ret := ret) hy hw ?_
  intro p e s m args below meth c s₁ B hml hno hv
  obtain ⟨rfl, hsz, hP, hK, hD0, hN⟩ := hv
  subst hsz
  have hD := hD0.self (sz := s.heap.size)
  have hl := lv_entry av (n := maxL) hlen
  rw [lg_entry_eq]
  exact body p e s m _ below meth c (va_A w s.heap.size) _ ⟨B.exec, B.bytes, hml, findClass_of_methodNamed B.named, atoms_spec (ws := ws) B.pre⟩ hno B.returns B.notSynchronized ⟨hP, hD, va_S.rf, hK, fun q h => Or.inr h, hN⟩ hl
theorem vofWH {hh : List (Nat × Nat × Nat × Nat)} (hy : plainName y.cls = true) (hw : ws = Cond.codeWith y cc maxL ret hh :: ws') (hlen : (lg_sl av).length ≤ maxL)
    (body : ∀ (p : Program) (e : Env) (s : State) (m : MethodId) (args : Array Value) (below : List Frame) (meth : Method) (c : Code) (A : Nat → Prop) (ls : Array Slot), CallFix p m c cc maxL s args ws y.cls → c.exceptionTable.toList = tableOf hh → meth.sig.returnType = ret → meth.locks = false → Wd N D tys A s w s.heap [] → lv_has ls maxL (lv_args 0 av) →
      W p l e rm s m args below meth c s.heap [] 0 0 (vx_MQ below (Qc A) (XC A) args s mc ms A) (F0 m 0 ls [])) : vx_Met l y ws rm (va_Pc av (Pr N D tys w sz)) (Qc (va_A w sz)) (XC (va_A w sz)) mc ms (va_A w sz) := by
  refine vx_ofWH (cc := cc) (maxL := maxL) (ret := ret) (hh := hh) hy hw ?_
  intro p e s m args below meth c s₁ B hml hv
  have hT : (Cond.codeWith y cc maxL ret hh).before args s = true := atoms_spec (ws := ws) B.pre _ (by rw [hw]; exact List.mem_cons_self)
  have htab := vx_table (x := y) B hT
  obtain ⟨rfl, hsz, hP, hK, hD0, hN⟩ := hv
  subst hsz
  have hD := hD0.self (sz := s.heap.size)
  have hl := lv_entry av (n := maxL) hlen
  rw [lg_entry_eq]
  exact body p e s m _ below meth c (va_A w s.heap.size) _ ⟨B.exec, B.bytes, hml, findClass_of_methodNamed B.named, atoms_spec (ws := ws) B.pre⟩ htab B.returns B.notSynchronized ⟨hP, hD, va_S.rf, hK, fun q h => Or.inr h, hN⟩ hl
end VOf
abbrev rmX8_look : Room := { frames := 12, cells := 1, slots := 6, locals := 400 }
theorem inX8_look_X1 : ∀ w ∈ wsX10, w ∈ wsX8_lookN := fun w h => List.mem_cons_of_mem _ (List.mem_append_left _ (List.mem_append_left _ (List.mem_append_left _ (List.mem_append_left _ (List.mem_append_left _ (List.mem_append_right _ h))))))
theorem inX8_look_ns : ∀ w ∈ nsW, w ∈ wsX8_lookN := fun w h => List.mem_cons_of_mem _ (List.mem_append_right _ h)
theorem z_out (b : Int32) (c0 : ¬ b = 0) (c1 : ¬ b = 1) (c2 : ¬ b = 2) (c3 : ¬ b = 3) (c4 : ¬ b = 4) : b.toInt < 0 ∨ 4 < b.toInt := by
  by_cases h1 : b < 0
  · exact Or.inl (Int32.lt_iff_toInt_lt.mp h1)
  · by_cases h2 : (4 : Int32) < b
    · exact Or.inr (Int32.lt_iff_toInt_lt.mp h2)
    · rcases z_04 b h1 h2 with q | q | q | q | q
      · exact absurd q c0
      · exact absurd q c1
      · exact absurd q c2
      · exact absurd q c3
      · exact absurd q c4
section Lk
variable {l : Launch} {D : va_G} {κ : Nat → ClassId} {η : Nat → Nat} {σ : (Nat → Nat) × (Nat → Nat)} {n : Nat} {M : Sg} {a1 a2 : Int32} {Q : Sg → Int32 → Prop} {T : Sg → Prop}
abbrev XL (D : va_G) (κ : Nat → ClassId) (η : Nat → Nat) (n : Nat) (T : Sg → Prop) (A : Nat → Prop) : String → State → State → Prop := vx_X T (fun E u t => E = nsE ∧ At D (Ky κ) (cw κ η n) A u t) A
theorem XL_of {A : Nat → Prop} {s : State} {H : Heap} {locs : List Loc} (hw : Wd (cN σ) D (Ky κ) A s (cw κ η n M) H locs) (hT : T M) (t : State) (hv : s.vm.Alike t.vm) (hz : H.size ≤ t.heap.size) (hk : ∀ q : Nat, q < H.size → t.heap[q]? = H[q]?) : XL D κ η n T A nsE s t := by
  obtain ⟨hP, hD, hS, hK, hA, hN⟩ := hw
  refine ⟨M, hT, ⟨rfl, fun k q hq => (hP k q hq).kept (hk q.1 (hP k q hq).lt), va_K.moved hv hK, hD⟩, ⟨Nat.le_trans hS.1 hz, fun q h1 h2 => ?_⟩⟩
  rw [hk q (Nat.lt_of_lt_of_le h1 hS.1)]
  exact hS.2.1 q h1 h2
set_option maxHeartbeats 4000000 in
set_option maxRecDepth 100000 in
theorem kX8_look (hst : l.stackTraces = false) (h : wX8_look n M a1 a2 Q T) (sz : Nat) : vx_Met l yX8_look wsX8_lookN rmX8_look (va_Pc [.ref (η 0), .int a1, .int a2] (Pr (cX σ) D (Ky κ) (cw κ η n M) sz)) (Qi D (Ky κ) (cw κ η n) (va_A (cw κ η n M) sz) Q) (XL D κ η n T (va_A (cw κ η n M) sz)) 1 6 (va_A (cw κ η n M) sz) := by
  refine vofW (Qc := fun A => Qi D (Ky κ) (cw κ η n) A Q) (XC := fun A => XL D κ η n T A) (cc := cX8_look) (maxL := 4) (ret := some .int) (by decide) rfl (Nat.le_of_ble_eq_true rfl) ?_
  intro p e s m args below meth c A ls X hno hr hlk hw hl
  have hl : lv_has ls 4 [(0, .ref (η 0)), (1, .int a1), (2, .int a2)] := hl
  have hml := X.2.2.1
  have hN : cX σ A s := hw.2.2.2.2.2
  have hw : Wd (cN σ) D (Ky κ) A s (cw κ η n M) s.heap [] := w_N (cX_N _ _) hw
  have hat := vx_hat (fun w hw => X.2.2.2.2 w (inX8_look_ns w hw)) nsW_bad (cX_bad (args := args) hN)
  refine lv_aload_n X.1 X.2.1 dX8_look_0 rfl (lv_at hl 0 rfl) ?_
  refine lv_iload_n X.1 X.2.1 dX8_look_1 rfl (lv_at hl 1 rfl) ?_
  refine r_Vq (As := [.int a1]) (rest := []) X cN_ok (kX8_find h) (cwV 1 X.2.2.2.2 gX8_lookN_X8_find rfl rfl rfl (by decide +kernel) ⟨Nat.le_of_ble_eq_true rfl, Nat.le_of_ble_eq_true rfl⟩) hw 0 7 rfl rfl rfl hl.1 rfl (Nat.le_of_ble_eq_true rfl) dX8_look_2 (fun M_1 H locs h hw => ?_) (fun j_3 M_1 H locs h hw => ?_)
  · have h := h.1 rfl
    refine lv_astore_nN (lv' := [(3, .null), (0, .ref (η 0)), (1, .int a1), (2, .int a2)]) X.1 X.2.1 dX8_look_5 rfl hl (by decide) rfl (fun ls hl => ?_)
    refine lv_aload_nN X.1 X.2.1 dX8_look_6 rfl (lv_at hl 0 rfl) ?_
    refine lv_ifnonnullN X.1 X.2.1 dX8_look_7 ?_
    exact ns_throw (own := RX8) (ik := 186) (is := 188) (ic := 190) (A := A) (pc := 10) X.1 X.2.1 hst X.2.2.2.1 (X.2.2.2.2 _ (by decide +kernel)) (X.2.2.2.2 _ (by decide +kernel)) (cN_str9 (cX_N _ _ hN)) hat nsW_ot hN.2.2.1 hN.2.2.2 hw.2.2.1 (hl.1.trans hml.symm) dX8_look_10 dX8_look_13 dX8_look_14 dX8_look_16 dX8_look_19 (fun x hx => (hno x hx).elim) (Nat.le_of_ble_eq_true rfl) (Nat.le_of_ble_eq_true rfl) (Nat.le_of_ble_eq_true rfl) (Nat.le_of_ble_eq_true rfl) hlk (XL_of hw h) hw.2.2.1.2.2 (Nat.le_of_ble_eq_true rfl) (Nat.le_of_ble_eq_true rfl)
  · have h := h.2 j_3 rfl
    refine lv_astore_n (lv' := [(3, .ref (η (49 + j_3))), (0, .ref (η 0)), (1, .int a1), (2, .int a2)]) X.1 X.2.1 dX8_look_5 rfl hl (by decide) rfl (fun ls hl => ?_)
    refine lv_aload_n X.1 X.2.1 dX8_look_6 rfl (lv_at hl 0 rfl) ?_
    refine lv_ifnonnull (tgt := 20) X.1 X.2.1 dX8_look_7 (by decide) ?_
    refine lv_iload_n X.1 X.2.1 dX8_look_20 rfl (lv_at hl 3 rfl) ?_
    obtain ⟨h0, h1, h2, h3, h4, h5⟩ := h
    by_cases c0 : a2 = 0
    · obtain ⟨hj_, h⟩ := h0 c0
      refine lv_tableIn (off := 35) (tgt := 56) X.1 X.2.1 dX8_look_21 (by rw [c0]; decide) (by rw [c0]; decide) (by rw [c0]; rfl) (by decide) ?_
      refine lv_aload_n X.1 X.2.1 dX8_look_56 rfl (lv_at hl 0 rfl) ?_
      refine r_gf X inX8_look_X1 hw (49 + j_3) (cw_lrn hj_) rfl 8 (by decide) (X.2.2.2.2 (.fieldLink RX8 140 "TestHall$Learner" "state" "I") (by decide +kernel)) rfl rfl dX8_look_57 ?_
      exact r_lret (wd := cw κ η n) X hr hlk hw h (Nat.zero_le _) (Nat.zero_le _) dX8_look_60
    by_cases c1 : a2 = 1
    · obtain ⟨hj_, h⟩ := h1 c1
      refine lv_tableIn (off := 40) (tgt := 61) X.1 X.2.1 dX8_look_21 (by rw [c1]; decide) (by rw [c1]; decide) (by rw [c1]; rfl) (by decide) ?_
      refine lv_aload_n X.1 X.2.1 dX8_look_61 rfl (lv_at hl 0 rfl) ?_
      refine r_gf X inX8_look_X1 hw (49 + j_3) (cw_lrn hj_) rfl 9 (by decide) (X.2.2.2.2 (.fieldLink RX8 143 "TestHall$Learner" "slot" "I") (by decide +kernel)) rfl rfl dX8_look_62 ?_
      exact r_lret (wd := cw κ η n) X hr hlk hw h (Nat.zero_le _) (Nat.zero_le _) dX8_look_65
    by_cases c2 : a2 = 2
    · obtain ⟨hj_, h⟩ := h2 c2
      refine lv_tableIn (off := 45) (tgt := 66) X.1 X.2.1 dX8_look_21 (by rw [c2]; decide) (by rw [c2]; decide) (by rw [c2]; rfl) (by decide) ?_
      refine lv_aload_n X.1 X.2.1 dX8_look_66 rfl (lv_at hl 0 rfl) ?_
      refine r_gf X inX8_look_X1 hw (49 + j_3) (cw_lrn hj_) rfl 10 (by decide) (X.2.2.2.2 (.fieldLink RX8 183 "TestHall$Learner" "tries" "I") (by decide +kernel)) rfl rfl dX8_look_67 ?_
      exact r_lret (wd := cw κ η n) X hr hlk hw h (Nat.zero_le _) (Nat.zero_le _) dX8_look_70
    by_cases c3 : a2 = 3
    · have h := h3 c3
      refine lv_tableIn (off := 50) (tgt := 71) X.1 X.2.1 dX8_look_21 (by rw [c3]; decide) (by rw [c3]; decide) (by rw [c3]; rfl) (by decide) ?_
      refine lv_aload_n X.1 X.2.1 dX8_look_71 rfl (lv_at hl 1 rfl) ?_
      refine lv_aload_n X.1 X.2.1 dX8_look_72 rfl (lv_at hl 0 rfl) ?_
      refine r_Vi (As := [.ref (η (49 + j_3))]) (rest := []) X cN_ok (kX8_placeAmongWaiting h) (cwV 1 X.2.2.2.2 gX8_lookN_X8_placeAmongWaiting rfl rfl rfl (by decide +kernel) ⟨Nat.le_of_ble_eq_true rfl, Nat.le_of_ble_eq_true rfl⟩) hw 0 7 rfl rfl rfl hl.1 rfl (Nat.le_of_ble_eq_true rfl) dX8_look_73 (fun r_8 M_7 H locs h hw => ?_)
      exact r_lret (wd := cw κ η n) X hr hlk hw h (Nat.zero_le _) (Nat.zero_le _) dX8_look_76
    by_cases c4 : a2 = 4
    · obtain ⟨hj_, h⟩ := h4 c4
      refine lv_tableIn (off := 56) (tgt := 77) X.1 X.2.1 dX8_look_21 (by rw [c4]; decide) (by rw [c4]; decide) (by rw [c4]; rfl) (by decide) ?_
      refine lv_aload_n X.1 X.2.1 dX8_look_77 rfl (lv_at hl 0 rfl) ?_
      refine r_gf X inX8_look_X1 hw (49 + j_3) (cw_lrn hj_) rfl 11 (by decide) (X.2.2.2.2 (.fieldLink RX8 196 "TestHall$Learner" "movedUp" "I") (by decide +kernel)) rfl rfl dX8_look_78 ?_
      exact r_lret (wd := cw κ η n) X hr hlk hw h (Nat.zero_le _) (Nat.zero_le _) dX8_look_81
    have h := h5 ⟨c0, c1, c2, c3, c4⟩
    refine lv_tableOut (tgt := 82) X.1 X.2.1 dX8_look_21 (z_out a2 c0 c1 c2 c3 c4) (by decide) ?_
    exact ns_throw (own := RX8) (ik := 186) (is := 199) (ic := 190) (A := A) (pc := 82) X.1 X.2.1 hst X.2.2.2.1 (X.2.2.2.2 _ (by decide +kernel)) (X.2.2.2.2 _ (by decide +kernel)) (cN_str10 (cX_N _ _ hN)) hat nsW_ot hN.2.2.1 hN.2.2.2 hw.2.2.1 (hl.1.trans hml.symm) dX8_look_82 dX8_look_85 dX8_look_86 dX8_look_88 dX8_look_91 (fun x hx => (hno x hx).elim) (Nat.le_of_ble_eq_true rfl) (Nat.le_of_ble_eq_true rfl) (Nat.le_of_ble_eq_true rfl) (Nat.le_of_ble_eq_true rfl) hlk (XL_of hw h) hw.2.2.1.2.2 (Nat.le_of_ble_eq_true rfl) (Nat.le_of_ble_eq_true rfl)
end Lk
