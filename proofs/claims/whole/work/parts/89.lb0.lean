/-! the law's loop: rows -/
abbrev ld (xs : Nat → Int32) (x4 t : Int32) : Int32 := xs (x4 + t).toNatClampNeg
def zb (v : Int32) : Int32 := if v = 0 then 0 else 1
theorem zb_c (v : Int32) : zb v = 0 ∨ zb v = 1 := by
  unfold zb
  split
  · exact Or.inl rfl
  · exact Or.inr rfl
theorem zb_1 (v : Int32) : narrow .boolean (.int (zb v)) = .int (zb v) := by rcases zb_c v with q | q <;> rw [q] <;> rfl
theorem zb_2 (v : Int32) : fits .boolean (.int (zb v)) = true := by rcases zb_c v with q | q <;> rw [q] <;> rfl
theorem zb_3 (v : Int32) : vp_nar .boolean (zb v) = zb v := by rcases zb_c v with q | q <;> rw [q] <;> decide
theorem z_sub7 {L j : Nat} (hL : L ≤ 3584) (hj : j ≤ 8000) (h : ¬ nI L - 7 < nI j) : j + 7 ≤ L := by
  rcases Nat.lt_or_ge L (j + 7) with q | q
  · exfalso
    apply h
    rw [Int32.lt_iff_toInt_lt, Int32.toInt_sub, nI_toInt (by omega), nI_toInt (by omega), show (7 : Int32).toInt = 7 from rfl, Int.bmod_def]
    split <;> omega
  · exact q
theorem z_cmp (x : Int64) : lg_cmp x x = 0 := by simp [lg_cmp]
section LB
variable {p : Program} {l : Launch} {e : Env} {s : State} {m : MethodId} {args : Array Value} {below : List Frame} {meth : Method} {c : Code} {H : Heap} {locs : List Loc} {QQ : State → Prop} {cells slots : Nat} {ls : Array Slot} {st : List Value}
variable {D : va_G} {κ : Nat → ClassId} {η ηm : Nat → Nat} {σ : (Nat → Nat) × (Nat → Nat)} {n o i b L : Nat} {C R : Sg} {f : Nat → Int64} {A : Nat → Prop} {xs : Nat → Int32} {x4 : Int32}
variable {Ts : List Cond} {own : String} {cc : ByteArray} {pc q1 q2 : Nat} {RR : Room}
theorem l_ld {t : Int32} {ti : Int} (X : CallFix p m c cc 7 s args Ts own) (hX : va_X b L xs s s.heap) (hbl : b < s.heap.size) (hbA : ¬ A b) (hS : va_S A s.heap H locs) (hl : lv_has ls 7 [(0, .ref b), (1, .ref q1), (2, .ref q2), (3, .ref o), (4, .int x4)]) (hin : vp_in (x4 + t) L) (d0 : decode cc pc = .ok (.aload_n 0, 1)) (d1 : decode cc (pc + 1) = .ok (.iload 4, 2)) (d3 : decode cc (pc + 1 + 2) = .ok (.iconst ti, 1)) (ht : Int32.ofInt ti = t) (d4 : decode cc (pc + 1 + 2 + 1) = .ok (.iadd, 1)) (d5 : decode cc (pc + 1 + 2 + 1 + 1) = .ok (.iaload, 1))
    (kk : W p l e RR s m args below meth c H locs cells slots QQ (F0 m (pc + 1 + 2 + 1 + 1 + 1) ls (.int (ld xs x4 t) :: st))) : W p l e RR s m args below meth c H locs cells slots QQ (F0 m pc ls st) := by
  refine lv_aload_n X.1 X.2.1 d0 rfl (lv_at hl 0 rfl) ?_
  refine lv_iload X.1 X.2.1 d1 (lv_at hl 4 rfl) ?_
  refine lv_iconst (v := t) X.1 X.2.1 d3 ht ?_
  refine lv_iadd X.1 X.2.1 d4 ?_
  exact va_sld X.1 X.2.1 hX hbl hbA hS hin d5 kk
theorem l_ldb {t : Int32} {ti : Int} (X : CallFix p m c cc 7 s args Ts own) (hX : va_X b L xs s s.heap) (hbl : b < s.heap.size) (hbA : ¬ A b) (hS : va_S A s.heap H locs) (hl : lv_has ls 7 [(0, .ref b), (1, .ref q1), (2, .ref q2), (3, .ref o), (4, .int x4)]) (hin : vp_in (x4 + t) L) (d0 : decode cc pc = .ok (.aload_n 0, 1)) (d1 : decode cc (pc + 1) = .ok (.iload 4, 2)) (d3 : decode cc (pc + 1 + 2) = .ok (.bipush ti, 2)) (ht : (Int8.ofInt ti).toInt32 = t) (d4 : decode cc (pc + 1 + 2 + 2) = .ok (.iadd, 1)) (d5 : decode cc (pc + 1 + 2 + 2 + 1) = .ok (.iaload, 1))
    (kk : W p l e RR s m args below meth c H locs cells slots QQ (F0 m (pc + 1 + 2 + 2 + 1 + 1) ls (.int (ld xs x4 t) :: st))) : W p l e RR s m args below meth c H locs cells slots QQ (F0 m pc ls st) := by
  refine lv_aload_n X.1 X.2.1 d0 rfl (lv_at hl 0 rfl) ?_
  refine lv_iload X.1 X.2.1 d1 (lv_at hl 4 rfl) ?_
  refine lv_bipush (v := t) X.1 X.2.1 d3 ht ?_
  refine lv_iadd X.1 X.2.1 d4 ?_
  exact va_sld X.1 X.2.1 hX hbl hbA hS hin d5 kk
theorem l_bool {v : Int32} (X : CallFix p m c cc 7 s args Ts own) (d0 : decode cc pc = .ok (.ifCond .eq 7, 3)) (d3 : decode cc (pc + 3) = .ok (.iconst 1, 1)) (d4 : decode cc (pc + 3 + 1) = .ok (.goto 4, 3)) (d7 : decode cc (pc + 7) = .ok (.iconst 0, 1))
    (kk : W p l e RR s m args below meth c H locs cells slots QQ (F0 m (pc + 7 + 1) ls (.int (zb v) :: st))) : W p l e RR s m args below meth c H locs cells slots QQ (F0 m pc ls (.int v :: st)) := by
  refine lv_if_eq (tgt := pc + 7) X.1 X.2.1 d0 (by omega) (fun c_ => ?_) (fun c_ => ?_)
  · refine lv_iconst (v := (0 : Int32)) X.1 X.2.1 d7 (by decide) ?_
    have hz : zb v = 0 := by unfold zb; rw [if_pos c_]
    rw [hz] at kk
    exact kk
  · refine lv_iconst (v := (1 : Int32)) X.1 X.2.1 d3 (by decide) ?_
    refine lv_goto (tgt := pc + 7 + 1) X.1 X.2.1 d4 (by omega) ?_
    have hz : zb v = 1 := by unfold zb; rw [if_neg c_]
    rw [hz] at kk
    exact kk
end LB
