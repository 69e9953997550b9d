/-! the names with what throwing needs; two worlds side by side -/
def cXb (U : State) : Prop := va_Nw (.declares (Bundle.initS "java/lang/RuntimeException")) U ∧ va_Nw (.declares (Bundle.initS "java/lang/Exception")) U ∧ va_Nw (.declares (Bundle.initS Bundle.tN)) U ∧ va_Nw (.castable nsE nsE) U
def cX (σ : (Nat → Nat) × (Nat → Nat)) (A : Nat → Prop) (U : State) : Prop := cM σ A U ∧ cXb U ∧ vx_Zq Bundle.tN "UNASSIGNED_STACK" Bundle.steD A U U.heap ∧ vx_Zq Bundle.tN "SUPPRESSED_SENTINEL" Bundle.listD A U U.heap
theorem cX_ok {σ : (Nat → Nat) × (Nat → Nat)} : NP (cX σ) := by
  refine ⟨fun A B s U hW hq hAB h => ?_, fun A u U e1 e2 h => ?_⟩
  · obtain ⟨h0, ⟨h1, h2, h3, h4⟩, h5, h6⟩ := h
    exact ⟨cM_ok.1 A B s U hW hq hAB h0, ⟨va_Nw.warmD hW h1, va_Nw.warmD hW h2, va_Nw.warmD hW h3, va_Nw.warmC hW h4⟩, ((h5.kept hq).narrow hAB).moved hW.alike, ((h6.kept hq).narrow hAB).moved hW.alike⟩
  · obtain ⟨h0, ⟨h1, h2, h3, h4⟩, h5, h6⟩ := h
    have ha : u.vm.Alike U.vm := by rw [e1]; exact Vm.Alike.refl _
    exact ⟨cM_ok.2 A u U e1 e2 h0, ⟨va_Nw.same rfl e1 h1, va_Nw.same rfl e1 h2, va_Nw.same rfl e1 h3, va_Nw.same rfl e1 h4⟩, by rw [← e2]; exact h5.moved ha, by rw [← e2]; exact h6.moved ha⟩
theorem cX_N {σ : (Nat → Nat) × (Nat → Nat)} (A : Nat → Prop) (s : State) (h : cX σ A s) : cN σ A s := h.1.1
theorem cX_M {σ : (Nat → Nat) × (Nat → Nat)} (A : Nat → Prop) (s : State) (h : cX σ A s) : cM σ A s := h.1
theorem cX_bad {σ : (Nat → Nat) × (Nat → Nat)} {A : Nat → Prop} {s : State} {args : Array Value} (h : cX σ A s) : ∀ w ∈ nsB, w.before args s = true :=
  vx_c (va_Nw.use rfl h.2.1.1) (vx_c (va_Nw.use rfl h.2.1.2.1) (vx_c (va_Nw.use rfl h.2.1.2.2.1) (vx_c (va_Nw.use rfl h.2.1.2.2.2) vx_n)))
section Fr
variable {p : Program} {l : Launch} {e : Env} {R : Room} {s : State} {m : MethodId} {args : Array Value} {below : List Frame} {meth : Method} {c : Code} {H : Heap} {locs : List Loc} {QQ : State → Prop} {cells slots : Nat}
variable {cc : ByteArray} {pc nL : Nat} {ls : Array Slot} {rest st : List Value} {N N1 : (Nat → Prop) → State → Prop} {D : va_G} {A : Nat → Prop} {a : Nat} {κ : Nat → ClassId} {tys : List (ClassId × FieldType)} {w w' w0 wc o1 : va_W} {Ts : List Cond} {own : String}
theorem w_N (hN : N A s → N1 A s) (hw : Wd N D tys A s w H locs) : Wd N1 D tys A s w H locs := ⟨hw.1, hw.2.1, hw.2.2.1, hw.2.2.2.1, hw.2.2.2.2.1, hN hw.2.2.2.2.2⟩
theorem w_map (f : Nat → Nat) (h1 : ∀ (k : Nat) (q : Nat × va_E), w'[k]? = some q → w[f k]? = some q) (h2 : ∀ i j : Nat, i < w'.length → j < w'.length → f i = f j → i = j) (hw : Wd N D tys A s w H locs) : Wd N D tys A s w' H locs := by
  obtain ⟨hP, hD, hS0, hK, hA, hN⟩ := hw
  exact ⟨fun k x hx => hP _ x (h1 k x hx), ⟨fun i j x y hx hy hxy => h2 i j (List.getElem?_eq_some_iff.mp hx).1 (List.getElem?_eq_some_iff.mp hy).1 (hD.1 _ _ x y (h1 i x hx) (h1 j y hy) hxy), fun k x hx => hD.2 _ x (h1 k x hx)⟩, hS0, hK, hA, hN⟩
theorem w_endP (hw : Wd N D tys A s (w0 ++ wc) H locs) : Wd N D tys A s wc H locs :=
  w_map (fun k => w0.length + k) (fun k q h => by rw [List.getElem?_append_right (by omega), Nat.add_sub_cancel_left]; exact h) (fun i j _ _ h => by omega) hw
theorem w_flip (hw : Wd N D tys A s ((o1 ++ w0) ++ wc) H locs) : Wd N D tys A s ((w0 ++ o1) ++ wc) H locs := by
  refine w_map (fun k => if k < w0.length then k + o1.length else if k < w0.length + o1.length then k - w0.length else k) (fun k q h => ?_) (fun i j hi hj h => ?_) hw
  · try dsimp only
    by_cases h1 : k < w0.length
    · rw [if_pos h1]
      rw [List.getElem?_append_left (by rw [List.length_append]; omega), List.getElem?_append_left h1] at h
      rw [List.getElem?_append_left (by rw [List.length_append]; omega), List.getElem?_append_right (by omega), Nat.add_sub_cancel]
      exact h
    · rw [if_neg h1]
      by_cases h2 : k < w0.length + o1.length
      · rw [if_pos h2]
        rw [List.getElem?_append_left (by rw [List.length_append]; omega), List.getElem?_append_right (by omega)] at h
        rw [List.getElem?_append_left (by rw [List.length_append]; omega), List.getElem?_append_left (by omega)]
        exact h
      · rw [if_neg h2]
        rw [List.getElem?_append_right (by rw [List.length_append]; omega), List.length_append] at h
        rw [List.getElem?_append_right (by rw [List.length_append]; omega), List.length_append, Nat.add_comm]
        exact h
  · try dsimp only at h
    split at h <;> split at h <;> (try split at h) <;> (try split at h) <;> omega
theorem w_sw (hw : Wd N D tys A s ((o1 ++ w0) ++ wc) H locs) : Wd N D tys A s ((o1 ++ wc) ++ w0) H locs := by
  have h1 := w_flip (wc := []) (o1 := o1 ++ w0) (w0 := wc) (by rw [List.append_nil]; exact hw)
  rw [List.append_nil, ← List.append_assoc] at h1
  exact w_flip h1
/-- the end of a world is handed to a callee, what comes back stands behind the rest -/
theorem w_end {S : Type} {wf : S → va_W} {u : S} {t : State} {H1 : Heap} {locs1 : List Loc} (hw : Wd N D tys A s (w0 ++ wc) H locs) (ht : t.heap = H1) (hB : va_P D vwCl (wf u) t.heap ∧ va_K D vwCl tys t ∧ va_D (va_A wc H.size) (wf u)) (hk : ∀ x : Nat, x < H.size → ¬ va_A wc H.size x → H1[x]? = H[x]?) (hS : va_S A s.heap H1 locs1) : Wd N D tys A s (w0 ++ wf u) H1 locs1 := by
  have hF := w_free (w_endP hw)
  obtain ⟨hP, hD, hS0, hK, hA, hN⟩ := hw
  obtain ⟨hP1, hK1, hD1⟩ := hB
  rw [ht] at hP1
  have lft : ∀ (k : Nat) (x : Nat × va_E), w0[k]? = some x → (w0 ++ wc)[k]? = some x := fun k x h => by
    rw [List.getElem?_append_left (List.getElem?_eq_some_iff.mp h).1]; exact h
  have lst : ∀ (k : Nat) (x : Nat × va_E), wc[k]? = some x → (w0 ++ wc)[w0.length + k]? = some x := fun k x h => by
    rw [List.getElem?_append_right (by omega), Nat.add_sub_cancel_left]; exact h
  have apart : ∀ (k : Nat) (x : Nat × va_E), w0[k]? = some x → x.1 < H.size ∧ ¬ va_A wc H.size x.1 := by
    intro k x hx
    have hl := (hP k x (lft k x hx)).lt
    refine ⟨hl, fun h => ?_⟩
    rcases h with ⟨k2, e, h⟩ | h
    · have := hD.1 k (w0.length + k2) x (x.1, e) (lft k x hx) (lst k2 _ h) rfl
      have := (List.getElem?_eq_some_iff.mp hx).1
      omega
    · omega
  refine ⟨va_P.app (fun k x hx => (hP k x (lft k x hx)).kept (hk x.1 (apart k x hx).1 (apart k x hx).2)) hP1, va_D.app ⟨fun i j x y hx hy hxy => hD.1 i j x y (lft i x hx) (lft j y hy) hxy, fun k x hx => hD.2 k x (lft k x hx)⟩ (hD1.weaken (fun _ _ _ h => hF _ h)) (fun i j x y hx hy hxy => ?_), hS, hK, hA, hN⟩
  exact (apart i x hx).2 (by rw [hxy]; exact hD1.2 j y hy)
variable {y : MethodName} {bytes : ByteArray} {maxL n index b mc ms : Nat} {ret : Option FieldType} {ws : List Cond} {rm : Room} {C host : String} {As : List Value} {T : u_T} {NN : Nat} {fs : List Value}
theorem r_FVi {S : Type} {wf : S → va_W} {post : Int32 → S → Prop} (X : CallFix p m c cc nL s args Ts own) (hNP : NP N1) (hNN : N A s → N1 A s) (hM : Met l y ws rm (va_Pc (.ref b :: As) (Pr N1 D tys wc H.size)) (va_Qi post (fun u t => va_P D vwCl (wf u) t.heap ∧ va_K D vwCl tys t ∧ va_D (va_A wc H.size) (wf u)) (va_A wc H.size)) mc ms (va_A wc H.size)) (cw : CallW R s args own C index y bytes maxL ret ws rm mc ms n) (hw : Wd N D tys A s (w0 ++ wc) H locs) (q0 ci : Nat) (hc : vwCl[ci]? = some (C, T, NN)) (he : wc[q0]? = some (b, .inr (ci, fs))) (hn : As.length = n) (hl : ls.size = nL) (hst : st = As.reverse ++ .ref b :: rest) (hroom : (rest.map fun v => v.category).sum ≤ 8) (hdg : decode cc pc = .ok (.invokevirtual index, 3)) (hf : cells + mc ≤ R.cells ∧ slots + ms ≤ R.slots)
    (kk : ∀ (r : Int32) (u : S) (H1 : Heap) (locs1 : List Loc), post r u → Wd N D tys A s (w0 ++ wf u) H1 locs1 → W p l e R s m args below meth c H1 locs1 (cells + mc) (slots + ms) QQ (F0 m (pc + 3) ls (.int r :: rest))) : W p l e R s m args below meth c H locs cells slots QQ (F0 m pc ls st) := by
  have hw1 : Wd N1 D tys A s wc H locs := w_N hNN (w_endP hw)
  refine va_calli (va_runV (As := As) (rest := rest) X hM cw ⟨w_blind hNP, va_recv hw1.2.2.2.1 hw1.1 hc he, w_pre hNP hw1 _⟩ rfl hn hl hst (lv_room hroom) hdg hf) hw.2.2.1 (fun q _ h => w_free hw1 q h) (w_free hw1) (fun r u t H1 locs1 ht hvm hq hB hz1 hk1 hS1 => ?_)
  exact kk r u H1 locs1 hq (w_end hw ht hB hk1 hS1)
theorem r_FKi {wd : Sg → va_W} {M : Sg} {Q : Sg → Int32 → Prop} (X : CallFix p m c cc nL s args Ts own) (hNP : NP N1) (hNN : N A s → N1 A s) (hM : Ki N1 D tys wd l y ws rm (.ref b :: As) M Q) (cw : CallW R s args own C index y bytes maxL ret ws rm 0 0 n) (hw : Wd N D tys A s (w0 ++ wd M) H locs) (q0 ci : Nat) (hc : vwCl[ci]? = some (C, T, NN)) (he : (wd M)[q0]? = some (b, .inr (ci, fs))) (hn : As.length = n) (hl : ls.size = nL) (hst : st = As.reverse ++ .ref b :: rest) (hroom : (rest.map fun v => v.category).sum ≤ 8) (hdg : decode cc pc = .ok (.invokevirtual index, 3)) (hf : cells ≤ R.cells ∧ slots ≤ R.slots)
    (kk : ∀ (r : Int32) (u : Sg) (H1 : Heap) (locs1 : List Loc), Q u r → Wd N D tys A s (w0 ++ wd u) H1 locs1 → W p l e R s m args below meth c H1 locs1 cells slots QQ (F0 m (pc + 3) ls (.int r :: rest))) : W p l e R s m args below meth c H locs cells slots QQ (F0 m pc ls st) :=
  r_FVi (S := Sg) (wf := wd) (post := fun r u => Q u r) X hNP hNN (hM H.size) cw hw q0 ci hc he hn hl hst hroom hdg hf kk
theorem r_FKx {η : Nat → Nat} {n1 : Nat} {M : Sg} {Q : Nat → Sg → Int32 → Prop} (X : CallFix p m c cc nL s args Ts own) (hNP : NP N1) (hNN : N A s → N1 A s) (hM : Kx N1 D κ η n1 l y ws rm (.ref b :: As) M Q mc ms) (cb : CallW R s args own C index y bytes maxL ret ws rm mc ms n) (hw : Wd N D (Ky κ) A s (w0 ++ cw κ η n1 M) H locs) (q0 ci : Nat) (hc : vwCl[ci]? = some (C, T, NN)) (he : (cw κ η n1 M)[q0]? = some (b, .inr (ci, fs))) (hn : As.length = n) (hl : ls.size = nL) (hst : st = As.reverse ++ .ref b :: rest) (hroom : (rest.map fun v => v.category).sum ≤ 8) (hdg : decode cc pc = .ok (.invokevirtual index, 3)) (hf : cells + mc ≤ R.cells ∧ slots + ms ≤ R.slots)
    (kk : ∀ (r : Int32) (u : Sg) (η' : Nat → Nat) (n' : Nat) (H1 : Heap) (locs1 : List Loc), η' 0 = η 0 → Q n' u r → Wd N D (Ky κ) A s (w0 ++ cw κ η' n' u) H1 locs1 → W p l e R s m args below meth c H1 locs1 (cells + mc) (slots + ms) QQ (F0 m (pc + 3) ls (.int r :: rest))) : W p l e R s m args below meth c H locs cells slots QQ (F0 m pc ls st) :=
  r_FVi (S := Sg × (Nat → Nat) × Nat) (wf := fun u => cw κ u.2.1 u.2.2 u.1) (post := fun r u => u.2.1 0 = η 0 ∧ Q u.2.2 u.1 r) X hNP hNN (hM H.size) cb hw q0 ci hc he hn hl hst hroom hdg hf (fun r u H1 locs1 h hw => kk r u.1 u.2.1 u.2.2 H1 locs1 h.1 h.2 hw)
end Fr
