section LB0
variable {p : Program} {l : Launch} {e : Env} {s : State} {m : MethodId} {args : Array Value} {below : List Frame} {meth : Method} {c : Code} {H : Heap} {locs : List Loc} {QQ : State → Prop} {cells slots : Nat} {ls : Array Slot} {st : List Value}
variable {D : va_G} {κ : Nat → ClassId} {η ηm : Nat → Nat} {σ : (Nat → Nat) × (Nat → Nat)} {n o i b L : Nat} {C R : Sg} {f : Nat → Int64} {A : Nat → Prop} {xs : Nat → Int32} {x4 : Int32}
set_option maxHeartbeats 4000000 in
set_option maxRecDepth 100000 in
theorem bL_examiner (X : CallFix p m c cL_law 7 s args wsL_lawN RL) (hX : va_X b L xs s s.heap) (hbl : b < s.heap.size) (hbA : ¬ A b)  (h : Rel i n C R) (hw : Wd (cX σ) D (Ky κ) A s ((oE κ o f ++ mw κ ηm R) ++ cw κ η n C) H locs) (hl : lv_has ls 7 [(0, .ref b), (1, .ref (η 0)), (2, .ref (ηm 0)), (3, .ref o), (4, .int x4)]) (hc : cells + 1 ≤ room_1.cells) (hs : slots + 12 ≤ room_1.slots)
    (kk : ∀ (n1 : Nat) (C1 R1 : Sg) (η1 : Nat → Nat) (f1 : Nat → Int64) (H : Heap) (locs : List Loc) (ls : Array Slot), Rel (i + 1) n1 C1 R1 → η1 0 = η 0 → Wd (cX σ) D (Ky κ) A s ((oE κ o f1 ++ mw κ ηm R1) ++ cw κ η1 n1 C1) H locs → lv_has ls 7 [(0, .ref b), (1, .ref (η 0)), (2, .ref (ηm 0)), (3, .ref o), (4, .int x4)] → W p l e room_1 s m args below meth c H locs (cells + 1) (slots + 12) QQ (F0 m 1108 ls [])) : W p l e room_1 s m args below meth c H locs cells slots QQ (F0 m 140 ls []) := by
  refine lv_aload_n X.1 X.2.1 dL_law_140 rfl (lv_at hl 1 rfl) ?_
  refine r_FKi (wd := cw κ η n) (As := []) (rest := []) X cN_ok (cX_N _ _) (kX8_examiner (op_examiner h)) (cwV 0 X.2.2.2.2 gL_law_X8_examiner rfl rfl rfl (by decide +kernel) ⟨Nat.le_of_ble_eq_true rfl, Nat.le_of_ble_eq_true rfl⟩) hw 0 7 rfl rfl rfl hl.1 rfl (Nat.le_of_ble_eq_true rfl) dL_law_141 ⟨by omega, by omega⟩ (fun r C1 H locs h hw => ?_)
  have hw := w_sw hw
  refine lv_aload_n X.1 X.2.1 dL_law_144 rfl (lv_at hl 2 rfl) ?_
  refine r_FKi (wd := mw κ ηm) (As := []) (rest := [.int r]) X cN_ok (cX_N _ _) (kX9_examiner h) (cwV 0 X.2.2.2.2 gL_law_X9_examiner rfl rfl rfl (by decide +kernel) ⟨Nat.le_of_ble_eq_true rfl, Nat.le_of_ble_eq_true rfl⟩) hw 0 8 rfl rfl rfl hl.1 rfl (Nat.le_of_ble_eq_true rfl) dL_law_145 ⟨by omega, by omega⟩ (fun r1 R1 H locs h hw => ?_)
  refine lv_icmp_eq (tgt := 1108) X.1 X.2.1 dL_law_148 (by decide) (fun _ => ?_) (fun c_ => absurd h.1.symm c_)
  refine W.widen (k := cells + 1) (n := slots + 12) (by omega) (by omega) ?_
  exact kk n C1 R1 η f H locs ls h.2 rfl (w_sw hw) hl
set_option maxHeartbeats 4000000 in
set_option maxRecDepth 100000 in
theorem bL_place (X : CallFix p m c cL_law 7 s args wsL_lawN RL) (hX : va_X b L xs s s.heap) (hbl : b < s.heap.size) (hbA : ¬ A b) (hi1 : vp_in (x4 + 1) L) (hi2 : vp_in (x4 + 2) L) (hi3 : vp_in (x4 + 3) L) (hi4 : vp_in (x4 + 4) L) (h : Rel i n C R) (hw : Wd (cX σ) D (Ky κ) A s ((oE κ o f ++ mw κ ηm R) ++ cw κ η n C) H locs) (hl : lv_has ls 7 [(0, .ref b), (1, .ref (η 0)), (2, .ref (ηm 0)), (3, .ref o), (4, .int x4)]) (hc : cells + 1 ≤ room_1.cells) (hs : slots + 12 ≤ room_1.slots)
    (kk : ∀ (n1 : Nat) (C1 R1 : Sg) (η1 : Nat → Nat) (f1 : Nat → Int64) (H : Heap) (locs : List Loc) (ls : Array Slot), Rel (i + 1) n1 C1 R1 → η1 0 = η 0 → Wd (cX σ) D (Ky κ) A s ((oE κ o f1 ++ mw κ ηm R1) ++ cw κ η1 n1 C1) H locs → lv_has ls 7 [(0, .ref b), (1, .ref (η 0)), (2, .ref (ηm 0)), (3, .ref o), (4, .int x4)] → W p l e room_1 s m args below meth c H locs (cells + 1) (slots + 12) QQ (F0 m 1108 ls [])) : W p l e room_1 s m args below meth c H locs cells slots QQ (F0 m 153 ls []) := by
  refine lv_aload_n X.1 X.2.1 dL_law_153 rfl (lv_at hl 1 rfl) ?_
  refine l_ld (t := (1 : Int32)) X hX hbl hbA hw.2.2.1 hl hi1 dL_law_154 dL_law_155 dL_law_157 (by decide) dL_law_158 dL_law_159 ?_
  refine l_ld (t := (2 : Int32)) X hX hbl hbA hw.2.2.1 hl hi2 dL_law_160 dL_law_161 dL_law_163 (by decide) dL_law_164 dL_law_165 ?_
  refine l_ld (t := (3 : Int32)) X hX hbl hbA hw.2.2.1 hl hi3 dL_law_166 dL_law_167 dL_law_169 (by decide) dL_law_170 dL_law_171 ?_
  refine l_ld (t := (4 : Int32)) X hX hbl hbA hw.2.2.1 hl hi4 dL_law_172 dL_law_173 dL_law_175 (by decide) dL_law_176 dL_law_177 ?_
  refine r_FKi (wd := cw κ η n) (As := [.int (ld xs x4 1), .int (ld xs x4 2), .int (ld xs x4 3), .int (ld xs x4 4)]) (rest := []) X cN_ok (cX_N _ _) (kX8_place (op_place h)) (cwV 4 X.2.2.2.2 gL_law_X8_place rfl rfl rfl (by decide +kernel) ⟨Nat.le_of_ble_eq_true rfl, Nat.le_of_ble_eq_true rfl⟩) hw 0 7 rfl rfl rfl hl.1 rfl (Nat.le_of_ble_eq_true rfl) dL_law_178 ⟨by omega, by omega⟩ (fun r C1 H locs h hw => ?_)
  have hw := w_sw hw
  refine lv_aload_n X.1 X.2.1 dL_law_181 rfl (lv_at hl 2 rfl) ?_
  refine l_ld (t := (1 : Int32)) X hX hbl hbA hw.2.2.1 hl hi1 dL_law_182 dL_law_183 dL_law_185 (by decide) dL_law_186 dL_law_187 ?_
  refine l_ld (t := (2 : Int32)) X hX hbl hbA hw.2.2.1 hl hi2 dL_law_188 dL_law_189 dL_law_191 (by decide) dL_law_192 dL_law_193 ?_
  refine l_ld (t := (3 : Int32)) X hX hbl hbA hw.2.2.1 hl hi3 dL_law_194 dL_law_195 dL_law_197 (by decide) dL_law_198 dL_law_199 ?_
  refine l_ld (t := (4 : Int32)) X hX hbl hbA hw.2.2.1 hl hi4 dL_law_200 dL_law_201 dL_law_203 (by decide) dL_law_204 dL_law_205 ?_
  refine r_FKi (wd := mw κ ηm) (As := [.int (ld xs x4 1), .int (ld xs x4 2), .int (ld xs x4 3), .int (ld xs x4 4)]) (rest := [.int r]) X cN_ok (cX_N _ _) (kX9_place h) (cwV 4 X.2.2.2.2 gL_law_X9_place rfl rfl rfl (by decide +kernel) ⟨Nat.le_of_ble_eq_true rfl, Nat.le_of_ble_eq_true rfl⟩) hw 0 8 rfl rfl rfl hl.1 rfl (Nat.le_of_ble_eq_true rfl) dL_law_206 ⟨by omega, by omega⟩ (fun r1 R1 H locs h hw => ?_)
  refine lv_icmp_eq (tgt := 1108) X.1 X.2.1 dL_law_209 (by decide) (fun _ => ?_) (fun c_ => absurd h.1.symm c_)
  refine W.widen (k := cells + 1) (n := slots + 12) (by omega) (by omega) ?_
  exact kk n C1 R1 η f H locs ls h.2 rfl (w_sw hw) hl
set_option maxHeartbeats 4000000 in
set_option maxRecDepth 100000 in
theorem bL_learner (X : CallFix p m c cL_law 7 s args wsL_lawN RL) (hX : va_X b L xs s s.heap) (hbl : b < s.heap.size) (hbA : ¬ A b) (hi1 : vp_in (x4 + 1) L) (hi2 : vp_in (x4 + 2) L) (hi3 : vp_in (x4 + 3) L) (hi4 : vp_in (x4 + 4) L) (hi5 : vp_in (x4 + 5) L) (hi6 : vp_in (x4 + 6) L) (h : Rel i n C R) (hw : Wd (cX σ) D (Ky κ) A s ((oE κ o f ++ mw κ ηm R) ++ cw κ η n C) H locs) (hl : lv_has ls 7 [(0, .ref b), (1, .ref (η 0)), (2, .ref (ηm 0)), (3, .ref o), (4, .int x4)]) (hc : cells + 1 ≤ room_1.cells) (hs : slots + 12 ≤ room_1.slots)
    (kk : ∀ (n1 : Nat) (C1 R1 : Sg) (η1 : Nat → Nat) (f1 : Nat → Int64) (H : Heap) (locs : List Loc) (ls : Array Slot), Rel (i + 1) n1 C1 R1 → η1 0 = η 0 → Wd (cX σ) D (Ky κ) A s ((oE κ o f1 ++ mw κ ηm R1) ++ cw κ η1 n1 C1) H locs → lv_has ls 7 [(0, .ref b), (1, .ref (η 0)), (2, .ref (ηm 0)), (3, .ref o), (4, .int x4)] → W p l e room_1 s m args below meth c H locs (cells + 1) (slots + 12) QQ (F0 m 1108 ls [])) : W p l e room_1 s m args below meth c H locs cells slots QQ (F0 m 214 ls []) := by
  refine lv_aload_n X.1 X.2.1 dL_law_214 rfl (lv_at hl 1 rfl) ?_
  refine l_ld (t := (1 : Int32)) X hX hbl hbA hw.2.2.1 hl hi1 dL_law_215 dL_law_216 dL_law_218 (by decide) dL_law_219 dL_law_220 ?_
  refine l_ld (t := (2 : Int32)) X hX hbl hbA hw.2.2.1 hl hi2 dL_law_221 dL_law_222 dL_law_224 (by decide) dL_law_225 dL_law_226 ?_
  refine l_ld (t := (3 : Int32)) X hX hbl hbA hw.2.2.1 hl hi3 dL_law_227 dL_law_228 dL_law_230 (by decide) dL_law_231 dL_law_232 ?_
  refine l_ld (t := (4 : Int32)) X hX hbl hbA hw.2.2.1 hl hi4 dL_law_233 dL_law_234 dL_law_236 (by decide) dL_law_237 dL_law_238 ?_
  refine l_ld (t := (5 : Int32)) X hX hbl hbA hw.2.2.1 hl hi5 dL_law_239 dL_law_240 dL_law_242 (by decide) dL_law_243 dL_law_244 ?_
  refine l_ldb (t := (6 : Int32)) X hX hbl hbA hw.2.2.1 hl hi6 dL_law_245 dL_law_246 dL_law_248 (by decide) dL_law_250 dL_law_251 ?_
  refine l_bool X dL_law_252 dL_law_255 dL_law_256 dL_law_259 ?_
  refine r_FKx (As := [.int (ld xs x4 1), .int (ld xs x4 2), .int (ld xs x4 3), .int (ld xs x4 4), .int (ld xs x4 5), .int (zb (ld xs x4 6))]) (rest := []) X cN_ok (cX_N _ _) (kX8_learner (op_learner h (zb_1 _) (zb_2 _) (zb_3 _))) (cwV 6 X.2.2.2.2 gL_law_X8_learner rfl rfl rfl (by decide +kernel) ⟨Nat.le_of_ble_eq_true rfl, Nat.le_of_ble_eq_true rfl⟩) hw 0 7 rfl rfl rfl hl.1 rfl (Nat.le_of_ble_eq_true rfl) dL_law_260 ⟨by omega, by omega⟩ (fun r C1 η1 n1 H locs hη h hw => ?_)
  have hw := w_sw hw
  refine lv_aload_n X.1 X.2.1 dL_law_263 rfl (lv_at hl 2 rfl) ?_
  refine l_ld (t := (1 : Int32)) X hX hbl hbA hw.2.2.1 hl hi1 dL_law_264 dL_law_265 dL_law_267 (by decide) dL_law_268 dL_law_269 ?_
  refine l_ld (t := (2 : Int32)) X hX hbl hbA hw.2.2.1 hl hi2 dL_law_270 dL_law_271 dL_law_273 (by decide) dL_law_274 dL_law_275 ?_
  refine l_ld (t := (3 : Int32)) X hX hbl hbA hw.2.2.1 hl hi3 dL_law_276 dL_law_277 dL_law_279 (by decide) dL_law_280 dL_law_281 ?_
  refine l_ld (t := (4 : Int32)) X hX hbl hbA hw.2.2.1 hl hi4 dL_law_282 dL_law_283 dL_law_285 (by decide) dL_law_286 dL_law_287 ?_
  refine l_ld (t := (5 : Int32)) X hX hbl hbA hw.2.2.1 hl hi5 dL_law_288 dL_law_289 dL_law_291 (by decide) dL_law_292 dL_law_293 ?_
  refine l_ldb (t := (6 : Int32)) X hX hbl hbA hw.2.2.1 hl hi6 dL_law_294 dL_law_295 dL_law_297 (by decide) dL_law_299 dL_law_300 ?_
  refine l_bool X dL_law_301 dL_law_304 dL_law_305 dL_law_308 ?_
  refine r_FKi (wd := mw κ ηm) (As := [.int (ld xs x4 1), .int (ld xs x4 2), .int (ld xs x4 3), .int (ld xs x4 4), .int (ld xs x4 5), .int (zb (ld xs x4 6))]) (rest := [.int r]) X cN_ok (cX_N _ _) (kX9_learner h) (cwV 6 X.2.2.2.2 gL_law_X9_learner rfl rfl rfl (by decide +kernel) ⟨Nat.le_of_ble_eq_true rfl, Nat.le_of_ble_eq_true rfl⟩) hw 0 8 rfl rfl rfl hl.1 rfl (Nat.le_of_ble_eq_true rfl) dL_law_309 ⟨by omega, by omega⟩ (fun r1 R1 H locs h hw => ?_)
  refine lv_icmp_eq (tgt := 1108) X.1 X.2.1 dL_law_312 (by decide) (fun _ => ?_) (fun c_ => absurd h.1.symm c_)
  refine W.widen (k := cells + 1) (n := slots + 12) (by omega) (by omega) ?_
  exact kk n1 C1 R1 η1 f H locs ls h.2 hη (w_sw hw) hl
set_option maxHeartbeats 4000000 in
set_option maxRecDepth 100000 in
theorem bL_feed (X : CallFix p m c cL_law 7 s args wsL_lawN RL) (hX : va_X b L xs s s.heap) (hbl : b < s.heap.size) (hbA : ¬ A b) (hi1 : vp_in (x4 + 1) L) (hi2 : vp_in (x4 + 2) L) (hi3 : vp_in (x4 + 3) L) (hi4 : vp_in (x4 + 4) L) (hi5 : vp_in (x4 + 5) L) (hi6 : vp_in (x4 + 6) L) (h : Rel i n C R) (hw : Wd (cX σ) D (Ky κ) A s ((oE κ o f ++ mw κ ηm R) ++ cw κ η n C) H locs) (hl : lv_has ls 7 [(0, .ref b), (1, .ref (η 0)), (2, .ref (ηm 0)), (3, .ref o), (4, .int x4)]) (hc : cells + 1 ≤ room_1.cells) (hs : slots + 12 ≤ room_1.slots)
    (kk : ∀ (n1 : Nat) (C1 R1 : Sg) (η1 : Nat → Nat) (f1 : Nat → Int64) (H : Heap) (locs : List Loc) (ls : Array Slot), Rel (i + 1) n1 C1 R1 → η1 0 = η 0 → Wd (cX σ) D (Ky κ) A s ((oE κ o f1 ++ mw κ ηm R1) ++ cw κ η1 n1 C1) H locs → lv_has ls 7 [(0, .ref b), (1, .ref (η 0)), (2, .ref (ηm 0)), (3, .ref o), (4, .int x4)] → W p l e room_1 s m args below meth c H locs (cells + 1) (slots + 12) QQ (F0 m 1108 ls [])) : W p l e room_1 s m args below meth c H locs cells slots QQ (F0 m 317 ls []) := by
  refine lv_aload_n X.1 X.2.1 dL_law_317 rfl (lv_at hl 1 rfl) ?_
  refine l_ld (t := (1 : Int32)) X hX hbl hbA hw.2.2.1 hl hi1 dL_law_318 dL_law_319 dL_law_321 (by decide) dL_law_322 dL_law_323 ?_
  refine lv_i2l (v := (ld xs x4 1).toInt64) X.1 X.2.1 dL_law_324 rfl ?_
  refine lv_bipush (v := (32 : Int32)) X.1 X.2.1 dL_law_325 (by decide) ?_
  refine lv_lshl (v := ((ld xs x4 1).toInt64 <<< ((32 : Int32).toInt64 &&& 63))) X.1 X.2.1 dL_law_327 rfl ?_
  refine l_ld (t := (2 : Int32)) X hX hbl hbA hw.2.2.1 hl hi2 dL_law_328 dL_law_329 dL_law_331 (by decide) dL_law_332 dL_law_333 ?_
  refine lv_i2l (v := (ld xs x4 2).toInt64) X.1 X.2.1 dL_law_334 rfl ?_
  refine lv_ldc2 (own := RL) (v := (4294967295 : Int64)) X.1 X.2.1 X.2.2.2.1 (X.2.2.2.2 _ (by decide +kernel)) dL_law_335 ?_
  refine lv_land X.1 X.2.1 dL_law_338 ?_
  refine lv_lor X.1 X.2.1 dL_law_339 ?_
  refine l_ld (t := (3 : Int32)) X hX hbl hbA hw.2.2.1 hl hi3 dL_law_340 dL_law_341 dL_law_343 (by decide) dL_law_344 dL_law_345 ?_
  refine lv_i2l (v := (ld xs x4 3).toInt64) X.1 X.2.1 dL_law_346 rfl ?_
  refine lv_bipush (v := (32 : Int32)) X.1 X.2.1 dL_law_347 (by decide) ?_
  refine lv_lshl (v := ((ld xs x4 3).toInt64 <<< ((32 : Int32).toInt64 &&& 63))) X.1 X.2.1 dL_law_349 rfl ?_
  refine l_ld (t := (4 : Int32)) X hX hbl hbA hw.2.2.1 hl hi4 dL_law_350 dL_law_351 dL_law_353 (by decide) dL_law_354 dL_law_355 ?_
  refine lv_i2l (v := (ld xs x4 4).toInt64) X.1 X.2.1 dL_law_356 rfl ?_
  refine lv_ldc2 (own := RL) (v := (4294967295 : Int64)) X.1 X.2.1 X.2.2.2.1 (X.2.2.2.2 _ (by decide +kernel)) dL_law_357 ?_
  refine lv_land X.1 X.2.1 dL_law_360 ?_
  refine lv_lor X.1 X.2.1 dL_law_361 ?_
  refine l_ld (t := (5 : Int32)) X hX hbl hbA hw.2.2.1 hl hi5 dL_law_362 dL_law_363 dL_law_365 (by decide) dL_law_366 dL_law_367 ?_
  refine lv_i2l (v := (ld xs x4 5).toInt64) X.1 X.2.1 dL_law_368 rfl ?_
  refine lv_bipush (v := (32 : Int32)) X.1 X.2.1 dL_law_369 (by decide) ?_
  refine lv_lshl (v := ((ld xs x4 5).toInt64 <<< ((32 : Int32).toInt64 &&& 63))) X.1 X.2.1 dL_law_371 rfl ?_
  refine l_ldb (t := (6 : Int32)) X hX hbl hbA hw.2.2.1 hl hi6 dL_law_372 dL_law_373 dL_law_375 (by decide) dL_law_377 dL_law_378 ?_
  refine lv_i2l (v := (ld xs x4 6).toInt64) X.1 X.2.1 dL_law_379 rfl ?_
  refine lv_ldc2 (own := RL) (v := (4294967295 : Int64)) X.1 X.2.1 X.2.2.2.1 (X.2.2.2.2 _ (by decide +kernel)) dL_law_380 ?_
  refine lv_land X.1 X.2.1 dL_law_383 ?_
  refine lv_lor X.1 X.2.1 dL_law_384 ?_
  refine r_FKi (wd := cw κ η n) (As := [.long (((ld xs x4 1).toInt64 <<< ((32 : Int32).toInt64 &&& 63)) ||| ((ld xs x4 2).toInt64 &&& (4294967295 : Int64))), .long (((ld xs x4 3).toInt64 <<< ((32 : Int32).toInt64 &&& 63)) ||| ((ld xs x4 4).toInt64 &&& (4294967295 : Int64))), .long (((ld xs x4 5).toInt64 <<< ((32 : Int32).toInt64 &&& 63)) ||| ((ld xs x4 6).toInt64 &&& (4294967295 : Int64)))]) (rest := []) X cN_ok (cX_N _ _) (kX8_feed (op_feed h)) (cwV 3 X.2.2.2.2 gL_law_X8_feed rfl rfl rfl (by decide +kernel) ⟨Nat.le_of_ble_eq_true rfl, Nat.le_of_ble_eq_true rfl⟩) hw 0 7 rfl rfl rfl hl.1 rfl (Nat.le_of_ble_eq_true rfl) dL_law_385 ⟨by omega, by omega⟩ (fun r C1 H locs h hw => ?_)
  have hw := w_sw hw
  refine lv_aload_n X.1 X.2.1 dL_law_388 rfl (lv_at hl 2 rfl) ?_
  refine l_ld (t := (1 : Int32)) X hX hbl hbA hw.2.2.1 hl hi1 dL_law_389 dL_law_390 dL_law_392 (by decide) dL_law_393 dL_law_394 ?_
  refine lv_i2l (v := (ld xs x4 1).toInt64) X.1 X.2.1 dL_law_395 rfl ?_
  refine lv_bipush (v := (32 : Int32)) X.1 X.2.1 dL_law_396 (by decide) ?_
  refine lv_lshl (v := ((ld xs x4 1).toInt64 <<< ((32 : Int32).toInt64 &&& 63))) X.1 X.2.1 dL_law_398 rfl ?_
  refine l_ld (t := (2 : Int32)) X hX hbl hbA hw.2.2.1 hl hi2 dL_law_399 dL_law_400 dL_law_402 (by decide) dL_law_403 dL_law_404 ?_
  refine lv_i2l (v := (ld xs x4 2).toInt64) X.1 X.2.1 dL_law_405 rfl ?_
  refine lv_ldc2 (own := RL) (v := (4294967295 : Int64)) X.1 X.2.1 X.2.2.2.1 (X.2.2.2.2 _ (by decide +kernel)) dL_law_406 ?_
  refine lv_land X.1 X.2.1 dL_law_409 ?_
  refine lv_lor X.1 X.2.1 dL_law_410 ?_
  refine l_ld (t := (3 : Int32)) X hX hbl hbA hw.2.2.1 hl hi3 dL_law_411 dL_law_412 dL_law_414 (by decide) dL_law_415 dL_law_416 ?_
  refine lv_i2l (v := (ld xs x4 3).toInt64) X.1 X.2.1 dL_law_417 rfl ?_
  refine lv_bipush (v := (32 : Int32)) X.1 X.2.1 dL_law_418 (by decide) ?_
  refine lv_lshl (v := ((ld xs x4 3).toInt64 <<< ((32 : Int32).toInt64 &&& 63))) X.1 X.2.1 dL_law_420 rfl ?_
  refine l_ld (t := (4 : Int32)) X hX hbl hbA hw.2.2.1 hl hi4 dL_law_421 dL_law_422 dL_law_424 (by decide) dL_law_425 dL_law_426 ?_
  refine lv_i2l (v := (ld xs x4 4).toInt64) X.1 X.2.1 dL_law_427 rfl ?_
  refine lv_ldc2 (own := RL) (v := (4294967295 : Int64)) X.1 X.2.1 X.2.2.2.1 (X.2.2.2.2 _ (by decide +kernel)) dL_law_428 ?_
  refine lv_land X.1 X.2.1 dL_law_431 ?_
  refine lv_lor X.1 X.2.1 dL_law_432 ?_
  refine l_ld (t := (5 : Int32)) X hX hbl hbA hw.2.2.1 hl hi5 dL_law_433 dL_law_434 dL_law_436 (by decide) dL_law_437 dL_law_438 ?_
  refine lv_i2l (v := (ld xs x4 5).toInt64) X.1 X.2.1 dL_law_439 rfl ?_
  refine lv_bipush (v := (32 : Int32)) X.1 X.2.1 dL_law_440 (by decide) ?_
  refine lv_lshl (v := ((ld xs x4 5).toInt64 <<< ((32 : Int32).toInt64 &&& 63))) X.1 X.2.1 dL_law_442 rfl ?_
  refine l_ldb (t := (6 : Int32)) X hX hbl hbA hw.2.2.1 hl hi6 dL_law_443 dL_law_444 dL_law_446 (by decide) dL_law_448 dL_law_449 ?_
  refine lv_i2l (v := (ld xs x4 6).toInt64) X.1 X.2.1 dL_law_450 rfl ?_
  refine lv_ldc2 (own := RL) (v := (4294967295 : Int64)) X.1 X.2.1 X.2.2.2.1 (X.2.2.2.2 _ (by decide +kernel)) dL_law_451 ?_
  refine lv_land X.1 X.2.1 dL_law_454 ?_
  refine lv_lor X.1 X.2.1 dL_law_455 ?_
  refine r_FKi (wd := mw κ ηm) (As := [.long (((ld xs x4 1).toInt64 <<< ((32 : Int32).toInt64 &&& 63)) ||| ((ld xs x4 2).toInt64 &&& (4294967295 : Int64))), .long (((ld xs x4 3).toInt64 <<< ((32 : Int32).toInt64 &&& 63)) ||| ((ld xs x4 4).toInt64 &&& (4294967295 : Int64))), .long (((ld xs x4 5).toInt64 <<< ((32 : Int32).toInt64 &&& 63)) ||| ((ld xs x4 6).toInt64 &&& (4294967295 : Int64)))]) (rest := [.int r]) X cN_ok (cX_N _ _) (kX9_feed h) (cwV 3 X.2.2.2.2 gL_law_X9_feed rfl rfl rfl (by decide +kernel) ⟨Nat.le_of_ble_eq_true rfl, Nat.le_of_ble_eq_true rfl⟩) hw 0 8 rfl rfl rfl hl.1 rfl (Nat.le_of_ble_eq_true rfl) dL_law_456 ⟨by omega, by omega⟩ (fun r1 R1 H locs h hw => ?_)
  refine lv_icmp_eq (tgt := 1108) X.1 X.2.1 dL_law_459 (by decide) (fun _ => ?_) (fun c_ => absurd h.1.symm c_)
  refine W.widen (k := cells + 1) (n := slots + 12) (by omega) (by omega) ?_
  exact kk n C1 R1 η f H locs ls h.2 rfl (w_sw hw) hl
end LB0
