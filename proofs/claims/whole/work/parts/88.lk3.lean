/-! the law's look: it catches -/
theorem vp01 : vp_in (0 : Int32) 1 := by rw [← nI_0]; exact vp_in_nI (by decide) (by decide)
abbrev oE (κ : Nat → ClassId) (o : Nat) (f : Nat → Int64) : va_W := [(o, .inl (κ 3, 1, .inr (.inl f)))]
abbrev rmL_look : Room := { frames := 20, cells := 1, slots := 6, locals := 800 }
abbrev qL (Q : Sg → Int32 → Prop) (T : Sg → Prop) : Int32 → Sg × (Nat → Int64) → Prop := fun r u => (r = 0 ∧ ∃ v : Int32, u.2 0 = v.toInt64 ∧ Q u.1 v) ∨ (r = 1 ∧ T u.1)
abbrev wL (κ : Nat → ClassId) (η : Nat → Nat) (n o : Nat) (u : Sg × (Nat → Int64)) : va_W := oE κ o u.2 ++ cw κ η n u.1
abbrev bL (D : va_G) (κ : Nat → ClassId) (η : Nat → Nat) (n o : Nat) (A : Nat → Prop) (u : Sg × (Nat → Int64)) (t : State) : Prop := va_P D vwCl (wL κ η n o u) t.heap ∧ va_K D vwCl (Ky κ) t ∧ va_D A (wL κ η n o u)
abbrev xL (A : Nat → Prop) : String → State → State → Prop := vx_X (fun _ : Unit => False) (fun _ _ _ => True) A
section LkL
variable {l : Launch} {D : va_G} {κ : Nat → ClassId} {η : Nat → Nat} {σ : (Nat → Nat) × (Nat → Nat)} {n o : Nat} {M : Sg} {a1 a2 : Int32} {Q : Sg → Int32 → Prop} {T : Sg → Prop} {f : Nat → Int64}
theorem r_Lret {p : Program} {e : Env} {R : Room} {s : State} {m : MethodId} {args : Array Value} {below : List Frame} {meth : Method} {c : Code} {H : Heap} {locs : List Loc} {cells slots : Nat} {ls : Array Slot} {XC : String → State → State → Prop} {N : (Nat → Prop) → State → Prop} {A : Nat → Prop} {cc : ByteArray} {pc nL : Nat} {Ts : List Cond} {own : String} {mc ms : Nat} {v : Int32} {post : Int32 → Sg × (Nat → Int64) → Prop} (X : CallFix p m c cc nL s args Ts own) (hr : meth.sig.returnType = some .int) (hlk : meth.locks = false) (hw : Wd N D (Ky κ) A s (oE κ o f ++ cw κ η n M) H locs) (hq : post v (M, f)) (h1 : cells ≤ mc) (h2 : slots ≤ ms) (hdg : decode cc pc = .ok (.ireturn, 1)) :
    W p l e R s m args below meth c H locs cells slots (vx_MQ below (va_Qi post (bL D κ η n o A) A) XC args s mc ms A) (F0 m pc ls [.int v]) := by
  obtain ⟨hP, hD, hS, hK, hA, hN⟩ := hw
  refine vx_ret (W.widen (k := mc) (n := ms) h1 h2 ?_)
  exact W.iret X.1 X.2.1 hr (fun t ht hW => ⟨⟨v, (M, f), rfl, hq, by rw [ht]; exact hP, va_K.moved hW.alike hK, hD⟩, hS.F ht⟩) hS.2.2 hdg hlk
set_option maxHeartbeats 4000000 in
set_option maxRecDepth 100000 in
theorem kL_look (hst : l.stackTraces = false) (h : wX8_look n M a1 a2 Q T) (sz : Nat) : vx_Met l yL_look wsL_lookN rmL_look (va_Pc [.ref (η 0), .int a1, .int a2, .ref o] (Pr (cX σ) D (Ky κ) (oE κ o f ++ cw κ η n M) sz)) (va_Qi (qL Q T) (bL D κ η n o (va_A (oE κ o f ++ cw κ η n M) sz)) (va_A (oE κ o f ++ cw κ η n M) sz)) (xL (va_A (oE κ o f ++ cw κ η n M) sz)) 1 6 (va_A (oE κ o f ++ cw κ η n M) sz) := by
  refine vofWH (Qc := fun A => va_Qi (qL Q T) (bL D κ η n o A) A) (XC := fun A => xL A) (cc := cL_look) (maxL := 5) (ret := some .int) (hh := [(0, 10, 13, 13)]) (by decide) rfl (Nat.le_of_ble_eq_true rfl) ?_
  intro p e s m args below meth c A ls X htab hr hlk hw hl
  have hl : lv_has ls 5 [(0, .ref (η 0)), (1, .int a1), (2, .int a2), (3, .ref o)] := hl
  have hN : cX σ A s := hw.2.2.2.2.2
  have hw1 := w_endP hw
  refine lv_aload_n X.1 X.2.1 dL_look_0 rfl (lv_at hl 3 rfl) ?_
  refine lv_iconst (v := (0 : Int32)) X.1 X.2.1 dL_look_1 (by decide) ?_
  refine lv_aload_n X.1 X.2.1 dL_look_2 rfl (lv_at hl 0 rfl) ?_
  refine lv_iload_n X.1 X.2.1 dL_look_3 rfl (lv_at hl 1 rfl) ?_
  refine lv_iload_n X.1 X.2.1 dL_look_4 rfl (lv_at hl 2 rfl) ?_
  refine vx_calli (vx_runV (As := [.int a1, .int a2]) (rest := [.int 0, .ref o]) X (kX8_look (σ := σ) hst h s.heap.size) (cwV 2 X.2.2.2.2 gL_lookN_X8_look rfl rfl rfl (by decide +kernel) ⟨Nat.le_of_ble_eq_true rfl, Nat.le_of_ble_eq_true rfl⟩) ⟨w_blind cX_ok, va_recv hw1.2.2.2.1 hw1.1 (ci := 7) rfl (show (cw κ η n M)[0]? = _ from rfl), w_pre cX_ok hw1 _⟩ rfl rfl hl.1 rfl (lv_room (Nat.le_of_ble_eq_true rfl)) dL_look_5 ⟨Nat.le_of_ble_eq_true rfl, Nat.le_of_ble_eq_true rfl⟩) hw.2.2.1 (fun q _ h => w_free hw1 q h) (w_free hw1) (fun q _ h => w_free hw1 q h) (fun E ce q9 u t H1 locs1 ht hvm hq hB hz1 hk1 hS1 hc1 hc2 hc3 => ?_) (fun r u t H1 locs1 ht hvm hq hB hz1 hk1 hS1 => ?_)
  · obtain ⟨rfl, hB⟩ := hB
    have hw := w_end (wf := cw κ η n) hw ht hB hk1 hS1
    refine vx_catch (own := RL) (name := nsE) X.2.2.2.1 [] ⟨0, 10, 13, 13⟩ [] (by rw [htab]; rfl) (fun z hz => nomatch hz) (by decide) (by decide) (X.2.2.2.2 _ (by decide +kernel)) (va_Nw.use rfl hN.2.1.2.2.2) hc1 hc2 hc3 ?_
    show W p l e rmL_look s m args below meth c H1 locs1 _ _ _ (F0 m 13 ls [.ref q9])
    refine lv_astore (lv' := [(4, .ref q9), (0, .ref (η 0)), (1, .int a1), (2, .int a2), (3, .ref o)]) X.1 X.2.1 dL_look_13 hl (by decide) rfl (fun ls hl => ?_)
    refine lv_iconst (v := (1 : Int32)) X.1 X.2.1 dL_look_15 (by decide) ?_
    exact r_Lret X hr hlk hw (Or.inr ⟨rfl, hq⟩) (Nat.le_of_ble_eq_true rfl) (Nat.le_of_ble_eq_true rfl) dL_look_16
  · have hw := w_end (wf := cw κ η n) hw ht hB hk1 hS1
    refine lv_i2l (v := r.toInt64) X.1 X.2.1 dL_look_8 rfl ?_
    refine r_las (w' := oE κ o (vp_updL f 0 r.toInt64) ++ cw κ η n u) X hw 0 3 rfl rfl vp01 rfl dL_look_9 (fun H2 locs2 hw => ?_)
    refine lv_goto (tgt := 17) X.1 X.2.1 dL_look_10 (by decide) ?_
    refine lv_iconst (v := (0 : Int32)) X.1 X.2.1 dL_look_17 (by decide) ?_
    exact r_Lret X hr hlk hw (Or.inl ⟨rfl, r, rfl, hq⟩) (Nat.le_of_ble_eq_true rfl) (Nat.le_of_ble_eq_true rfl) dL_look_18
variable {p : Program} {e : Env} {R : Room} {s : State} {m : MethodId} {args : Array Value} {below : List Frame} {meth : Method} {c : Code} {H : Heap} {locs : List Loc} {QQ : State → Prop} {cells slots : Nat}
variable {cc : ByteArray} {pc nL : Nat} {ls : Array Slot} {rest st : List Value} {A : Nat → Prop} {w0 : va_W} {Ts : List Cond} {own : String} {index : Nat}
set_option maxHeartbeats 1000000 in
theorem r_Look (hst9 : l.stackTraces = false) (h : wX8_look n M a1 a2 Q T) (X : CallFix p m c cc nL s args Ts own) (cb : vx_CSW R s args own index yL_look cL_look 5 (some .int) [(0, 10, 13, 13)] wsL_lookN rmL_look 1 6 4) (hw : Wd (cX σ) D (Ky κ) A s (w0 ++ (oE κ o f ++ cw κ η n M)) H locs) (hl : ls.size = nL) (hst : st = [.ref o, .int a2, .int a1, .ref (η 0)] ++ rest) (hroom : (rest.map fun v => v.category).sum ≤ 8) (hdg : decode cc pc = .ok (.invokestatic index, 3)) (hf : cells + 1 ≤ R.cells ∧ slots + 6 ≤ R.slots)
    (kk : ∀ (r : Int32) (u : Sg) (f' : Nat → Int64) (H1 : Heap) (locs1 : List Loc), qL Q T r (u, f') → Wd (cX σ) D (Ky κ) A s (w0 ++ (oE κ o f' ++ cw κ η n u)) H1 locs1 → W p l e R s m args below meth c H1 locs1 (cells + 1) (slots + 6) QQ (F0 m (pc + 3) ls (.int r :: rest))) : W p l e R s m args below meth c H locs cells slots QQ (F0 m pc ls st) := by
  have hw1 := w_endP hw
  refine vx_calli (vx_runSX (As := [.ref (η 0), .int a1, .int a2, .ref o]) (rest := rest) X (kL_look (σ := σ) hst9 h H.size) cb ⟨w_blind cX_ok, w_pre cX_ok hw1 _⟩ rfl rfl hl hst (lv_room hroom) hdg hf) hw.2.2.1 (fun q _ h => w_free hw1 q h) (w_free hw1) (fun q _ h => w_free hw1 q h) (fun E ce q9 u t H1 locs1 ht hvm hq hB hz1 hk1 hS1 hc1 hc2 hc3 => hq.elim) (fun r u t H1 locs1 ht hvm hq hB hz1 hk1 hS1 => ?_)
  exact kk r u.1 u.2 H1 locs1 hq (w_end (wf := wL κ η n o) hw ht hB hk1 hS1)
end LkL
