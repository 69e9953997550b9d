/-! the JDK's members on the string constants of the class -/
def sC (i k : Nat) : Int32 := (sByt.getD i []).getD k 0
theorem sC_ok : ∀ i, i < 11 → ∀ k, k < sLen.getD i 0 → (((sC i k) &&& 255).toUInt32 % 65536).toInt32 = sC i k ∧ narrow .char (.int (sC i k)) = .int (sC i k) := by decide +kernel
theorem sL_ok : ∀ i, i < 11 → nI (sLen.getD i 0) >>> ((0 : Int32) &&& 31) = nI (sLen.getD i 0) := by decide +kernel
abbrev rmJ0_coder_7d493 : Room := { frames := 0, cells := 0, slots := 0, locals := 0 }
abbrev rmJ0_length_8abf5 : Room := { frames := 1, cells := 0, slots := 0, locals := 20 }
abbrev rmJ0_isLatin1_aae02 : Room := { frames := 0, cells := 0, slots := 0, locals := 0 }
abbrev rmJ3_checkIndex_8e157 : Room := { frames := 0, cells := 0, slots := 0, locals := 0 }
abbrev rmJ0_checkIndex_df160 : Room := { frames := 1, cells := 0, slots := 0, locals := 22 }
abbrev rmJ1_charAt_3b067 : Room := { frames := 2, cells := 0, slots := 0, locals := 43 }
abbrev rmJ0_charAt_5068e : Room := { frames := 3, cells := 0, slots := 0, locals := 64 }
section Str
variable {l : Launch} {D : va_G} {tys : List (ClassId × FieldType)} {wd : Sg → va_W} {σ : (Nat → Nat) × (Nat → Nat)} {M : Sg}
set_option maxRecDepth 100000 in
theorem kJ0_coder_7d493 {i : Nat} {Q : Sg → Int32 → Prop} (hi : i < 11) (h : Q M 0) : Ki (cN σ) D tys wd l yJ0_coder_7d493 wsJ0_coder_7d493 rmJ0_coder_7d493 [.ref (σ.1 i)] M Q := by
  refine ofW_g (Qc := fun A => Qi D tys wd A Q) (cc := cJ0_coder_7d493) (maxL := 1) (ret := some .byte) (by decide) rfl (Nat.le_of_ble_eq_true rfl) ?_
  intro p e s m args below meth c A ls X hr hlk hw hl
  have hl : lv_has ls 1 [(0, .ref (σ.1 i))] := hl
  obtain ⟨-, -, hv, hz, hq⟩ := hw.2.2.2.2.2
  refine va_gets X.1 X.2.1 hz hw.2.2.1 X.2.2.2.1 (X.2.2.2.2 (.fieldLink RJ0 38 "java/lang/String" "COMPACT_STRINGS" "Z") (by decide +kernel)) (fun _ h9 => h9) dJ0_coder_7d493_0 ?_
  refine lv_if_eq (tgt := 13) X.1 X.2.1 dJ0_coder_7d493_3 (by decide) (fun c_ => absurd c_ (by decide)) (fun c_ => ?_)
  refine lv_aload_n X.1 X.2.1 dJ0_coder_7d493_6 rfl (lv_at hl 0 rfl) ?_
  refine vk_getf X.1 X.2.1 (hv.1 i hi).2.1 hw.2.2.1 X.2.2.2.1 (X.2.2.2.2 (.fieldLink RJ0 15 "java/lang/String" "coder" "B") (by decide +kernel)) (fun _ h9 => h9) dJ0_coder_7d493_7 ?_
  refine lv_goto (tgt := 14) X.1 X.2.1 dJ0_coder_7d493_10 (by decide) ?_
  exact r_nret X hr hlk hw rfl h dJ0_coder_7d493_14
set_option maxRecDepth 100000 in
theorem kJ0_isLatin1_aae02 {i : Nat} {Q : Sg → Int32 → Prop} (hi : i < 11) (h : Q M 1) : Ki (cN σ) D tys wd l yJ0_isLatin1_aae02 wsJ0_isLatin1_aae02 rmJ0_isLatin1_aae02 [.ref (σ.1 i)] M Q := by
  refine ofW_g (Qc := fun A => Qi D tys wd A Q) (cc := cJ0_isLatin1_aae02) (maxL := 1) (ret := some .boolean) (by decide) rfl (Nat.le_of_ble_eq_true rfl) ?_
  intro p e s m args below meth c A ls X hr hlk hw hl
  have hl : lv_has ls 1 [(0, .ref (σ.1 i))] := hl
  obtain ⟨-, -, hv, hz, hq⟩ := hw.2.2.2.2.2
  refine va_gets X.1 X.2.1 hz hw.2.2.1 X.2.2.2.1 (X.2.2.2.2 (.fieldLink RJ0 38 "java/lang/String" "COMPACT_STRINGS" "Z") (by decide +kernel)) (fun _ h9 => h9) dJ0_isLatin1_aae02_0 ?_
  refine lv_if_eq (tgt := 17) X.1 X.2.1 dJ0_isLatin1_aae02_3 (by decide) (fun c_ => absurd c_ (by decide)) (fun c_ => ?_)
  refine lv_aload_n X.1 X.2.1 dJ0_isLatin1_aae02_6 rfl (lv_at hl 0 rfl) ?_
  refine vk_getf X.1 X.2.1 (hv.1 i hi).2.1 hw.2.2.1 X.2.2.2.1 (X.2.2.2.2 (.fieldLink RJ0 15 "java/lang/String" "coder" "B") (by decide +kernel)) (fun _ h9 => h9) dJ0_isLatin1_aae02_7 ?_
  refine lv_if_ne (tgt := 17) X.1 X.2.1 dJ0_isLatin1_aae02_10 (by decide) (fun c_ => absurd rfl c_) (fun c_ => ?_)
  refine lv_iconst (v := (1 : Int32)) X.1 X.2.1 dJ0_isLatin1_aae02_13 (by decide) ?_
  refine lv_goto (tgt := 18) X.1 X.2.1 dJ0_isLatin1_aae02_14 (by decide) ?_
  exact r_zret X hr hlk hw rfl h dJ0_isLatin1_aae02_18
set_option maxRecDepth 100000 in
theorem kJ0_length_8abf5 {i : Nat} {Q : Sg → Int32 → Prop} (hi : i < 11) (h : Q M (nI (sLen.getD i 0))) : Ki (cN σ) D tys wd l yJ0_length_8abf5 wsJ0_length_8abf5 rmJ0_length_8abf5 [.ref (σ.1 i)] M Q := by
  refine ofW_g (Qc := fun A => Qi D tys wd A Q) (cc := cJ0_length_8abf5) (maxL := 1) (ret := some .int) (by decide) rfl (Nat.le_of_ble_eq_true rfl) ?_
  intro p e s m args below meth c A ls X hr hlk hw hl
  have hl : lv_has ls 1 [(0, .ref (σ.1 i))] := hl
  obtain ⟨-, -, hv, hz, hq⟩ := hw.2.2.2.2.2
  refine lv_aload_n X.1 X.2.1 dJ0_length_8abf5_0 rfl (lv_at hl 0 rfl) ?_
  refine vk_getf X.1 X.2.1 (hv.1 i hi).2.2.1 hw.2.2.1 X.2.2.2.1 (X.2.2.2.2 (.fieldLink RJ0 9 "java/lang/String" "value" "[B") (by decide +kernel)) (fun _ h9 => h9) dJ0_length_8abf5_1 ?_
  refine va_tlen (v := nI (sLen.getD i 0)) X.1 X.2.1 (hv.1 i hi).2.2.2 hw.2.2.1 rfl dJ0_length_8abf5_4 ?_
  refine lv_aload_n X.1 X.2.1 dJ0_length_8abf5_5 rfl (lv_at hl 0 rfl) ?_
  refine r_ViR (As := []) (rest := [.int (nI (sLen.getD i 0))]) X cN_ok (kJ0_coder_7d493 (Q := fun u r => u = M ∧ r = 0) hi ⟨rfl, rfl⟩) (cwV 0 X.2.2.2.2 gJ0_length_8abf5_J0_coder_7d493 rfl rfl rfl (by decide +kernel) ⟨Nat.le_of_ble_eq_true rfl, Nat.le_of_ble_eq_true rfl⟩) hw (vk_recv hv hi hw.2.2.1) rfl hl.1 rfl (Nat.le_of_ble_eq_true rfl) dJ0_length_8abf5_6 (fun r u H locs hq hw => ?_)
  obtain ⟨e1_, e2_⟩ := hq
  rw [e1_] at hw
  rw [e2_]
  refine lv_ishr X.1 X.2.1 dJ0_length_8abf5_9 ?_
  rw [sL_ok i hi]
  exact r_ret X hr hlk hw h dJ0_length_8abf5_10
set_option maxRecDepth 100000 in
theorem kJ3_checkIndex_8e157 {x y : Int32} {v : Value} {Q : Sg → Int32 → Prop} (hv : v = .null ∨ ∃ t, v = .ref t) (h1 : ¬ x < 0) (h2 : x < y) (h : Q M x) : Ki (cN σ) D tys wd l yJ3_checkIndex_8e157 wsJ3_checkIndex_8e157 rmJ3_checkIndex_8e157 [.int x, .int y, v] M Q := by
  have hc : v.category = 1 := by rcases hv with rfl | ⟨t, rfl⟩ <;> rfl
  refine ofW_g (Qc := fun A => Qi D tys wd A Q) (cc := cJ3_checkIndex_8e157) (maxL := 3) (ret := some .int) (by decide) rfl (by rcases hv with rfl | ⟨t, rfl⟩ <;> exact Nat.le_of_ble_eq_true rfl) ?_
  intro p e s m args below meth c A ls X hr hlk hw hl
  have hl : lv_has ls 3 [(0, .int x), (1, .int y), (2, v)] := hl
  refine lv_iload_n X.1 X.2.1 dJ3_checkIndex_8e157_0 rfl (lv_at hl 0 rfl) ?_
  refine lv_if_lt (tgt := 9) X.1 X.2.1 dJ3_checkIndex_8e157_1 (by decide) (fun c_ => absurd c_ h1) (fun c_ => ?_)
  refine lv_iload_n X.1 X.2.1 dJ3_checkIndex_8e157_4 rfl (lv_at hl 0 rfl) ?_
  refine lv_iload_n X.1 X.2.1 dJ3_checkIndex_8e157_5 rfl (lv_at hl 1 rfl) ?_
  refine lv_icmp_lt (tgt := 16) X.1 X.2.1 dJ3_checkIndex_8e157_6 (by decide) (fun c_ => ?_) (fun c_ => absurd h2 c_)
  refine lv_iload_n X.1 X.2.1 dJ3_checkIndex_8e157_16 rfl (lv_at hl 0 rfl) ?_
  exact r_ret X hr hlk hw h dJ3_checkIndex_8e157_17
set_option maxRecDepth 100000 in
theorem kJ0_checkIndex_df160 {x y : Int32} {Q : Sg → Prop} (h1 : ¬ x < 0) (h2 : x < y) (h : Q M) : Kv (cN σ) D tys wd l yJ0_checkIndex_df160 wsJ0_checkIndex_df160 rmJ0_checkIndex_df160 [.int x, .int y] M Q := by
  refine ofW_g (Qc := fun A => Qv D tys wd A Q) (cc := cJ0_checkIndex_df160) (maxL := 2) (ret := none) (by decide) rfl (Nat.le_of_ble_eq_true rfl) ?_
  intro p e s m args below meth c A ls X hr hlk hw hl
  have hl : lv_has ls 2 [(0, .int x), (1, .int y)] := hl
  obtain ⟨-, -, hv, hz, hq⟩ := hw.2.2.2.2.2
  refine lv_iload_n X.1 X.2.1 dJ0_checkIndex_df160_0 rfl (lv_at hl 0 rfl) ?_
  refine lv_iload_n X.1 X.2.1 dJ0_checkIndex_df160_1 rfl (lv_at hl 1 rfl) ?_
  have hq : ∃ v : Value, (v = .null ∨ ∃ t, v = .ref t) ∧ va_Z "jdk/internal/util/Preconditions" "SIOOBE_FORMATTER" "Ljava/util/function/BiFunction;" v A s s.heap := by
    rcases hq with q | ⟨t, q⟩
    · exact ⟨.null, Or.inl rfl, q⟩
    · exact ⟨.ref t, Or.inr ⟨t, rfl⟩, q⟩
  obtain ⟨v, hv1, hq⟩ := hq
  refine va_gets X.1 X.2.1 hq hw.2.2.1 X.2.2.2.1 (X.2.2.2.2 (.fieldLink RJ0 1053 "jdk/internal/util/Preconditions" "SIOOBE_FORMATTER" "Ljava/util/function/BiFunction;") (by decide +kernel)) (fun _ h9 => h9) dJ0_checkIndex_df160_2 ?_
  refine r_Si (As := [.int x, .int y, v]) (rest := []) X cN_ok (kJ3_checkIndex_8e157 (Q := fun u r => u = M ∧ r = x) hv1 h1 h2 ⟨rfl, rfl⟩) (va_cwS 3 X.2.2.2.2 gJ0_checkIndex_df160_J3_checkIndex_8e157 rfl rfl rfl (by decide +kernel) ⟨Nat.le_of_ble_eq_true rfl, Nat.le_of_ble_eq_true rfl⟩) hw rfl hl.1 rfl (Nat.le_of_ble_eq_true rfl) dJ0_checkIndex_df160_5 (fun r u H locs hq hw => ?_)
  obtain ⟨e1_, e2_⟩ := hq
  rw [e1_] at hw
  rw [e2_]
  refine lv_pop X.1 X.2.1 dJ0_checkIndex_df160_8 rfl ?_
  exact r_vret X hr hlk hw h dJ0_checkIndex_df160_9
theorem vp_in_lt {x : Int32} {L : Nat} (hL : L < 2 ^ 31) (h : vp_in x L) : ¬ x < 0 ∧ x < nI L := by
  obtain ⟨j, hj, rfl⟩ := vp_in_of h hL
  exact ⟨nI_pos (by omega), nI_lt hj hL⟩
theorem sL_lt : ∀ i, i < 11 → sLen.getD i 0 < 2 ^ 31 := by decide +kernel
set_option maxRecDepth 100000 in
theorem kJ1_charAt_3b067 {i : Nat} {x : Int32} {Q : Sg → Int32 → Prop} (hi : i < 11) (hx : vp_in x (sLen.getD i 0)) (h : Q M (sC i x.toNatClampNeg)) : Ki (cN σ) D tys wd l yJ1_charAt_3b067 wsJ1_charAt_3b067 rmJ1_charAt_3b067 [.ref (σ.2 i), .int x] M Q := by
  refine ofW_g (Qc := fun A => Qi D tys wd A Q) (cc := cJ1_charAt_3b067) (maxL := 2) (ret := some .char) (by decide) rfl (Nat.le_of_ble_eq_true rfl) ?_
  intro p e s m args below meth c A ls X hr hlk hw hl
  have hl : lv_has ls 2 [(0, .ref (σ.2 i)), (1, .int x)] := hl
  obtain ⟨-, -, hv, hz, hq⟩ := hw.2.2.2.2.2
  obtain ⟨g1, g2⟩ := vp_in_lt (sL_lt i hi) hx
  refine lv_iload_n X.1 X.2.1 dJ1_charAt_3b067_0 rfl (lv_at hl 1 rfl) ?_
  refine lv_aload_n X.1 X.2.1 dJ1_charAt_3b067_1 rfl (lv_at hl 0 rfl) ?_
  refine va_tlen (v := nI (sLen.getD i 0)) X.1 X.2.1 (hv.1 i hi).2.2.2 hw.2.2.1 rfl dJ1_charAt_3b067_2 ?_
  refine r_Sv (As := [.int x, .int (nI (sLen.getD i 0))]) (rest := []) X cN_ok (kJ0_checkIndex_df160 (Q := fun u => u = M) g1 g2 rfl) (va_cwS 2 X.2.2.2.2 gJ1_charAt_3b067_J0_checkIndex_df160 rfl rfl rfl (by decide +kernel) ⟨Nat.le_of_ble_eq_true rfl, Nat.le_of_ble_eq_true rfl⟩) hw rfl hl.1 rfl (Nat.le_of_ble_eq_true rfl) dJ1_charAt_3b067_3 (fun u H locs hq hw => ?_)
  rw [hq] at hw
  obtain ⟨-, -, hv, hz, hq⟩ := hw.2.2.2.2.2
  refine lv_aload_n X.1 X.2.1 dJ1_charAt_3b067_6 rfl (lv_at hl 0 rfl) ?_
  refine lv_iload_n X.1 X.2.1 dJ1_charAt_3b067_7 rfl (lv_at hl 1 rfl) ?_
  refine va_tb (v := .int (sC i x.toNatClampNeg)) X.1 X.2.1 (hv.1 i hi).2.2.2 hw.2.2.1 hx rfl dJ1_charAt_3b067_8 ?_
  refine lv_sipush (v := (255 : Int32)) X.1 X.2.1 dJ1_charAt_3b067_9 (by decide) ?_
  refine lv_iand X.1 X.2.1 dJ1_charAt_3b067_12 ?_
  obtain ⟨e1, e2⟩ := sC_ok i hi x.toNatClampNeg (Nat.not_le.mp fun q => hx (Or.inr q))
  refine lv_i2c (v := sC i x.toNatClampNeg) X.1 X.2.1 dJ1_charAt_3b067_13 e1 ?_
  exact r_nret X hr hlk hw e2 h dJ1_charAt_3b067_14
set_option maxRecDepth 100000 in
theorem kJ0_charAt_5068e {i : Nat} {x : Int32} {Q : Sg → Int32 → Prop} (hi : i < 11) (hx : vp_in x (sLen.getD i 0)) (h : Q M (sC i x.toNatClampNeg)) : Ki (cN σ) D tys wd l yJ0_charAt_5068e wsJ0_charAt_5068e rmJ0_charAt_5068e [.ref (σ.1 i), .int x] M Q := by
  refine ofW_g (Qc := fun A => Qi D tys wd A Q) (cc := cJ0_charAt_5068e) (maxL := 2) (ret := some .char) (by decide) rfl (Nat.le_of_ble_eq_true rfl) ?_
  intro p e s m args below meth c A ls X hr hlk hw hl
  have hl : lv_has ls 2 [(0, .ref (σ.1 i)), (1, .int x)] := hl
  obtain ⟨-, -, hv, hz, hq⟩ := hw.2.2.2.2.2
  obtain ⟨e1, e2⟩ := sC_ok i hi x.toNatClampNeg (Nat.not_le.mp fun q => hx (Or.inr q))
  refine lv_aload_n X.1 X.2.1 dJ0_charAt_5068e_0 rfl (lv_at hl 0 rfl) ?_
  refine r_ViR (As := []) (rest := []) X cN_ok (kJ0_isLatin1_aae02 (Q := fun u r => u = M ∧ r = 1) hi ⟨rfl, rfl⟩) (cwV 0 X.2.2.2.2 gJ0_charAt_5068e_J0_isLatin1_aae02 rfl rfl rfl (by decide +kernel) ⟨Nat.le_of_ble_eq_true rfl, Nat.le_of_ble_eq_true rfl⟩) hw (vk_recv hv hi hw.2.2.1) rfl hl.1 rfl (Nat.le_of_ble_eq_true rfl) dJ0_charAt_5068e_1 (fun r u H locs hq hw => ?_)
  obtain ⟨e1_, e2_⟩ := hq
  rw [e1_] at hw
  rw [e2_]
  refine lv_if_eq (tgt := 16) X.1 X.2.1 dJ0_charAt_5068e_4 (by decide) (fun c_ => absurd c_ (by decide)) (fun c_ => ?_)
  obtain ⟨-, -, hv, hz, hq⟩ := hw.2.2.2.2.2
  refine lv_aload_n X.1 X.2.1 dJ0_charAt_5068e_7 rfl (lv_at hl 0 rfl) ?_
  refine vk_getf X.1 X.2.1 (hv.1 i hi).2.2.1 hw.2.2.1 X.2.2.2.1 (X.2.2.2.2 (.fieldLink RJ0 9 "java/lang/String" "value" "[B") (by decide +kernel)) (fun _ h9 => h9) dJ0_charAt_5068e_8 ?_
  refine lv_iload_n X.1 X.2.1 dJ0_charAt_5068e_11 rfl (lv_at hl 1 rfl) ?_
  refine r_Si (As := [.ref (σ.2 i), .int x]) (rest := []) X cN_ok (kJ1_charAt_3b067 (Q := fun w r => w = M ∧ r = sC i x.toNatClampNeg) hi hx ⟨rfl, rfl⟩) (va_cwS 2 X.2.2.2.2 gJ0_charAt_5068e_J1_charAt_3b067 rfl rfl rfl (by decide +kernel) ⟨Nat.le_of_ble_eq_true rfl, Nat.le_of_ble_eq_true rfl⟩) hw rfl hl.1 rfl (Nat.le_of_ble_eq_true rfl) dJ0_charAt_5068e_12 (fun r u H locs hq hw => ?_)
  obtain ⟨e1_, e2_⟩ := hq
  rw [e1_] at hw
  rw [e2_]
  exact r_nret X hr hlk hw e2 h dJ0_charAt_5068e_15
end Str
