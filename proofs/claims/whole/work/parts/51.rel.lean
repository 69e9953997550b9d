/-! what a component rests on -/
theorem RelB_C {n w x : Nat} {C R C' : Sg} (h : RelB n w x C R) (i0 : gI C' 0 = gI C 0) (i1 : gI C' 1 = gI C 1) (i23 : gI C' 23 = gI C 23) (a0 : gA C' 0 = gA C 0) (a1 : gA C' 1 = gA C 1) : RelB n w x C' R := by
  unfold RelB at h ⊢
  simp only [i0, i1, i23, a0, a1]
  exact h
theorem RelB_R {n w x : Nat} {C R R' : Sg} (h : RelB n w x C R) (i24 : gI R' 24 = gI R 24) (i25 : gI R' 25 = gI R 25) (i30 : gI R' 30 = gI R 30) (a26 : gA R' 26 = gA R 26) (a27 : gA R' 27 = gA R 27) (a28 : gA R' 28 = gA R 28 := by rfl) : RelB n w x C R' := by
  unfold RelB at h ⊢
  simp only [i24, i25, i30, a26, a27, a28]
  exact h
theorem RelL_C {n x : Nat} {C R C' : Sg} (h : RelL n x C R) (a50 : gA C' 50 = gA C 50) (a51 : gA C' 51 = gA C 51) (a52 : gA C' 52 = gA C 52) (a53 : gA C' 53 = gA C 53) (a54 : gA C' 54 = gA C 54) (a55 : gA C' 55 = gA C 55) (a56 : gA C' 56 = gA C 56) (a57 : gA C' 57 = gA C 57) (a58 : gA C' 58 = gA C 58) (a59 : gA C' 59 = gA C 59) (a60 : gA C' 60 = gA C 60) (a61 : gA C' 61 = gA C 61) : RelL n x C' R := by
  unfold RelL RelL1 at h ⊢
  simp only [a50, a51, a52, a53, a54, a55, a56, a57, a58, a59, a60, a61]
  exact h
theorem RelL_R {n x : Nat} {C R R' : Sg} (h : RelL n x C R) (a31 : gA R' 31 = gA R 31) (a32 : gA R' 32 = gA R 32) (a33 : gA R' 33 = gA R 33) (a34 : gA R' 34 = gA R 34) (a35 : gA R' 35 = gA R 35) (a36 : gA R' 36 = gA R 36) (a37 : gA R' 37 = gA R 37) (a38 : gA R' 38 = gA R 38) (a39 : gA R' 39 = gA R 39) (a40 : gA R' 40 = gA R 40) (a41 : gA R' 41 = gA R 41) : RelL n x C R' := by
  unfold RelL RelL1 at h ⊢
  simp only [a31, a32, a33, a34, a35, a36, a37, a38, a39, a40, a41]
  exact h
theorem RelK_C {n : Nat} {C R C' : Sg} (h : RelK n C R) (a2 : gA C' 2 = gA C 2) : RelK n C' R := by
  unfold RelK at h ⊢
  simp only [a2]
  exact h
theorem RelK_R {n : Nat} {C R R' : Sg} (h : RelK n C R) (a38 : gA R' 38 = gA R 38) (a39 : gA R' 39 = gA R 39) : RelK n C R' := by
  unfold RelK at h ⊢
  simp only [a38, a39]
  exact h
theorem RelP_C {i : Nat} {C R C' : Sg} (h : RelP i C R) (i2 : gI C' 2 = gI C 2) (i3 : gI C' 3 = gI C 3) (a3 : gA C' 3 = gA C 3) (a4 : gA C' 4 = gA C 4) : RelP i C' R := by
  unfold RelP at h ⊢
  simp only [i2, i3, a3, a4]
  exact h
theorem RelP_R {i : Nat} {C R R' : Sg} (h : RelP i C R) (i42 : gI R' 42 = gI R 42) (a28 : gA R' 28 = gA R 28) (a29 : gA R' 29 = gA R 29) : RelP i C R' := by
  unfold RelP at h ⊢
  simp only [i42, a28, a29]
  exact h
theorem RelS_C {m : Nat} {C R C' : Sg} (h : RelS m C R) (i5 : gI C' 5 = gI C 5) (hA : ∀ a, (19 ≤ a ∧ a ≤ 24) ∨ (30 ≤ a ∧ a < 42) → gA C' a = gA C a) : RelS m C' R := by
  obtain ⟨h1, h2, h3, h4, h5, h6, h7⟩ := h
  refine ⟨h1, i5.trans h2, h3, fun k hk => ?_, fun k hk => ?_, h6, fun c hc => ?_⟩
  · rw [hA 19 (by omega), hA 20 (by omega), hA 21 (by omega), hA 22 (by omega)]; exact h4 k hk
  · rw [hA 23 (by omega)]; exact h5 k hk
  · rw [hA 24 (by omega), hA (30 + c) (by omega)]; exact h7 c hc
theorem RelS_R {m : Nat} {C R R' : Sg} (h : RelS m C R) (i45 : gI R' 45 = gI R 45) (a46 : gA R' 46 = gA R 46) (a47 : gA R' 47 = gA R 47) (a48 : gA R' 48 = gA R 48) (a49 : gA R' 49 = gA R 49) (a50 : gA R' 50 = gA R 50) (a51 : gA R' 51 = gA R 51) : RelS m C R' := by
  have e : ∀ c m, incs R' c m = incs R c m := fun c m => by unfold incs inc; rw [a46, a47]
  unfold RelS at h ⊢
  simp only [e, i45, a46, a47, a48, a49, a50, a51]
  exact h
theorem RelD_C  {C R C' : Sg} (h : RelD  C R) (i6 : gI C' 6 = gI C 6) (a26 : gA C' 26 = gA C 26) : RelD  C' R := by
  unfold RelD at h ⊢
  simp only [i6, a26]
  exact h
theorem RelD_R  {C R R' : Sg} (h : RelD  C R) (i55 : gI R' 55 = gI R 55) (a54 : gA R' 54 = gA R 54) : RelD  C R' := by
  unfold RelD at h ⊢
  simp only [i55, a54]
  exact h
theorem RelF_C  {C R C' : Sg} (h : RelF  C R) (i14 : gI C' 14 = gI C 14) (a8 : gA C' 8 = gA C 8) : RelF  C' R := by
  unfold RelF at h ⊢
  simp only [i14, a8]
  exact h
theorem RelF_R  {C R R' : Sg} (h : RelF  C R) (i2 : gI R' 2 = gI R 2) (a1 : gA R' 1 = gA R 1) : RelF  C R' := by
  unfold RelF at h ⊢
  simp only [i2, a1]
  exact h
theorem RelX_C  {C R C' : Sg} (h : RelX  C R) (i15 : gI C' 15 = gI C 15) (a9 : gA C' 9 = gA C 9) (a10 : gA C' 10 = gA C 10) (a11 : gA C' 11 = gA C 11) : RelX  C' R := by
  unfold RelX at h ⊢
  simp only [i15, a9, a10, a11]
  exact h
theorem RelX_R  {C R R' : Sg} (h : RelX  C R) (i15 : gI R' 15 = gI R 15) (a10 : gA R' 10 = gA R 10) (a11 : gA R' 11 = gA R 11) (a12 : gA R' 12 = gA R 12) (a13 : gA R' 13 = gA R 13) (a14 : gA R' 14 = gA R 14) : RelX  C R' := by
  unfold RelX at h ⊢
  simp only [i15, a10, a11, a12, a13, a14]
  exact h
theorem Rel_C {i n : Nat} {C R C' : Sg} (h : Rel i n C R) (e : ∀ k, k ∈ [0, 1, 2, 3, 5, 6, 14, 15, 23] → gI C' k = gI C k) (f : ∀ a, a ∈ [0, 1, 2, 3, 4, 8, 9, 10, 11, 19, 20, 21, 22, 23, 24, 26, 30, 31, 32, 33, 34, 35, 36, 37, 38, 39, 40, 41, 50, 51, 52, 53, 54, 55, 56, 57, 58, 59, 60, 61] → gA C' a = gA C a) : Rel i n C' R := by
  obtain ⟨⟨w, x, h1, h2⟩, h3, h4, ⟨m, h5⟩, h6, h7, h8, h9⟩ := h
  exact ⟨⟨w, x, RelB_C h1 (e 0 (by decide)) (e 1 (by decide)) (e 23 (by decide)) (f 0 (by decide)) (f 1 (by decide)), RelL_C h2 (f 50 (by decide)) (f 51 (by decide)) (f 52 (by decide)) (f 53 (by decide)) (f 54 (by decide)) (f 55 (by decide)) (f 56 (by decide)) (f 57 (by decide)) (f 58 (by decide)) (f 59 (by decide)) (f 60 (by decide)) (f 61 (by decide))⟩, RelK_C h3 (f 2 (by decide)), RelP_C h4 (e 2 (by decide)) (e 3 (by decide)) (f 3 (by decide)) (f 4 (by decide)), ⟨m, RelS_C h5 (e 5 (by decide)) (fun a h => f a (by simp; omega))⟩, RelD_C h6 (e 6 (by decide)) (f 26 (by decide)), RelF_C h7 (e 14 (by decide)) (f 8 (by decide)), RelX_C h8 (e 15 (by decide)) (f 9 (by decide)) (f 10 (by decide)) (f 11 (by decide)), h9⟩
theorem Rel_R {i n : Nat} {C R R' : Sg} (h : Rel i n C R) (e : ∀ k, k ∈ [2, 15, 24, 25, 30, 42, 45, 55] → gI R' k = gI R k) (f : ∀ a, a ∈ [1, 10, 11, 12, 13, 14, 26, 27, 28, 29, 30, 31, 32, 33, 34, 35, 36, 37, 38, 39, 40, 41, 46, 47, 48, 49, 50, 51, 54] → gA R' a = gA R a) (g : gJ R' 9 = gJ R 9) : Rel i n C R' := by
  obtain ⟨⟨w, x, h1, h2⟩, h3, h4, ⟨m, h5⟩, h6, h7, h8, h9⟩ := h
  exact ⟨⟨w, x, RelB_R h1 (e 24 (by decide)) (e 25 (by decide)) (e 30 (by decide)) (f 26 (by decide)) (f 27 (by decide)) (f 28 (by decide)), RelL_R h2 (f 31 (by decide)) (f 32 (by decide)) (f 33 (by decide)) (f 34 (by decide)) (f 35 (by decide)) (f 36 (by decide)) (f 37 (by decide)) (f 38 (by decide)) (f 39 (by decide)) (f 40 (by decide)) (f 41 (by decide))⟩, RelK_R h3 (f 38 (by decide)) (f 39 (by decide)), RelP_R h4 (e 42 (by decide)) (f 28 (by decide)) (f 29 (by decide)), ⟨m, RelS_R h5 (e 45 (by decide)) (f 46 (by decide)) (f 47 (by decide)) (f 48 (by decide)) (f 49 (by decide)) (f 50 (by decide)) (f 51 (by decide))⟩, RelD_R h6 (e 55 (by decide)) (f 54 (by decide)), RelF_R h7 (e 2 (by decide)) (f 1 (by decide)), RelX_R h8 (e 15 (by decide)) (f 10 (by decide)) (f 11 (by decide)) (f 12 (by decide)) (f 13 (by decide)) (f 14 (by decide)), g.trans h9.1, fun j hj => by rw [f 40 (by decide), f 41 (by decide)]; exact h9.2 j hj⟩
theorem Rel_mono {i j n : Nat} {C R : Sg} (h : Rel i n C R) (hij : i ≤ j) : Rel j n C R := by
  obtain ⟨h1, h3, ⟨tf, pf, g1, g2, g3⟩, h4⟩ := h
  exact ⟨h1, h3, ⟨tf, pf, g1, Nat.le_trans g2 hij, g3⟩, h4⟩
