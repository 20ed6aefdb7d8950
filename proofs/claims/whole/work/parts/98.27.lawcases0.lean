/-! THE LAW: case by case -/
section LCases
variable {p : Program} {l : Launch} {e : Env} {s : State} {m : MethodId} {below : List Frame} {meth : Method} {c : Code} {H : Heap} {locs : List Loc} {cells slots : Nat} {Q : State → Prop} {b L i : Nat} {xs : Nat → Int32} {D : va_G} {cA : Nat → ClassId} {A : Nat → Prop} {ls : Array Slot} {ad : Nat → Nat} {M : Mem}
set_option maxHeartbeats 4000000 in
set_option maxRecDepth 20000 in
theorem law_0 (C : LC p l s m c b L xs D cA A) (S : WSt D cA A s ad M H locs) (hI : Inv M) (hl : lv_has ls 7 (lL ad b i)) (hi : i + 7 ≤ L) (hcs : cells + 1 ≤ 601024 ∧ slots + 4096 ≤ 7293033) (K : LK p l e s m below meth c b i D cA A Q cells slots) : W p l e room_1 s m #[Value.ref b] below meth c H locs cells slots Q (F0 m 172 ls []) := by
  have X := C.1
  have hcs0 : cells ≤ 601024 ∧ slots ≤ 7293033 := ⟨by omega, by omega⟩
  obtain ⟨x, M1, M2, e1, e2, hI2⟩ := i_feed hI (fdv (xv xs (i + 1)) (xv xs (i + 2))) (fdv (xv xs (i + 3)) (xv xs (i + 4))) (fdv (xv xs (i + 5)) (xv xs (i + 6)))
  have t1 := tX11_feed (fdv (xv xs (i + 1)) (xv xs (i + 2))) (fdv (xv xs (i + 3)) (xv xs (i + 4))) (fdv (xv xs (i + 5)) (xv xs (i + 6))) M
  rw [e1] at t1
  have t2 := tX12_feed (fdv (xv xs (i + 1)) (xv xs (i + 2))) (fdv (xv xs (i + 3)) (xv xs (i + 4))) (fdv (xv xs (i + 5)) (xv xs (i + 6))) M1
  rw [e2] at t2
  refine lv_aload_n X.1 X.2.1 dL_law_172 rfl (lv_at hl 3 rfl) ?_
  refine l_arg (j := 1) C S (lv_at hl 4 rfl) (lv_at hl 0 rfl) hi (by decide) rfl dL_law_173 dL_law_174 dL_law_176 dL_law_177 dL_law_178 ?_
  refine lv_i2l (v := Int64.ofInt (xv xs (i + 1))) X.1 X.2.1 dL_law_179 (i2l_of xv_in) ?_
  refine lv_bipush (v := 32) X.1 X.2.1 dL_law_180 (by decide) ?_
  refine lv_lshl (v := Int64.ofInt (shv (xv xs (i + 1)))) X.1 X.2.1 dL_law_182 (Int64.ofInt_toInt _).symm ?_
  refine l_arg (j := 2) C S (lv_at hl 4 rfl) (lv_at hl 0 rfl) hi (by decide) rfl dL_law_183 dL_law_184 dL_law_186 dL_law_187 dL_law_188 ?_
  refine lv_i2l (v := Int64.ofInt (xv xs (i + 2))) X.1 X.2.1 dL_law_189 (i2l_of xv_in) ?_
  refine lv_ldc2 X.1 X.2.1 X.2.2.2.1 (X.2.2.2.2.1 _ kl_22) dL_law_190 ?_
  refine lv_land X.1 X.2.1 dL_law_193 ?_
  refine lv_lor X.1 X.2.1 dL_law_194 ?_
  rw [show Int64.ofInt (shv (xv xs (i + 1))) ||| (Int64.ofInt (xv xs (i + 2)) &&& 4294967295) = Int64.ofInt (fdv (xv xs (i + 1)) (xv xs (i + 2))) from (Int64.ofInt_toInt _).symm]
  refine l_arg (j := 3) C S (lv_at hl 4 rfl) (lv_at hl 0 rfl) hi (by decide) rfl dL_law_195 dL_law_196 dL_law_198 dL_law_199 dL_law_200 ?_
  refine lv_i2l (v := Int64.ofInt (xv xs (i + 3))) X.1 X.2.1 dL_law_201 (i2l_of xv_in) ?_
  refine lv_bipush (v := 32) X.1 X.2.1 dL_law_202 (by decide) ?_
  refine lv_lshl (v := Int64.ofInt (shv (xv xs (i + 3)))) X.1 X.2.1 dL_law_204 (Int64.ofInt_toInt _).symm ?_
  refine l_arg (j := 4) C S (lv_at hl 4 rfl) (lv_at hl 0 rfl) hi (by decide) rfl dL_law_205 dL_law_206 dL_law_208 dL_law_209 dL_law_210 ?_
  refine lv_i2l (v := Int64.ofInt (xv xs (i + 4))) X.1 X.2.1 dL_law_211 (i2l_of xv_in) ?_
  refine lv_ldc2 X.1 X.2.1 X.2.2.2.1 (X.2.2.2.2.1 _ kl_22) dL_law_212 ?_
  refine lv_land X.1 X.2.1 dL_law_215 ?_
  refine lv_lor X.1 X.2.1 dL_law_216 ?_
  rw [show Int64.ofInt (shv (xv xs (i + 3))) ||| (Int64.ofInt (xv xs (i + 4)) &&& 4294967295) = Int64.ofInt (fdv (xv xs (i + 3)) (xv xs (i + 4))) from (Int64.ofInt_toInt _).symm]
  refine l_arg (j := 5) C S (lv_at hl 4 rfl) (lv_at hl 0 rfl) hi (by decide) rfl dL_law_217 dL_law_218 dL_law_220 dL_law_221 dL_law_222 ?_
  refine lv_i2l (v := Int64.ofInt (xv xs (i + 5))) X.1 X.2.1 dL_law_223 (i2l_of xv_in) ?_
  refine lv_bipush (v := 32) X.1 X.2.1 dL_law_224 (by decide) ?_
  refine lv_lshl (v := Int64.ofInt (shv (xv xs (i + 5)))) X.1 X.2.1 dL_law_226 (Int64.ofInt_toInt _).symm ?_
  refine l_arg6 C S (lv_at hl 4 rfl) (lv_at hl 0 rfl) hi dL_law_227 dL_law_228 dL_law_230 dL_law_232 dL_law_233 ?_
  refine lv_i2l (v := Int64.ofInt (xv xs (i + 6))) X.1 X.2.1 dL_law_234 (i2l_of xv_in) ?_
  refine lv_ldc2 X.1 X.2.1 X.2.2.2.1 (X.2.2.2.2.1 _ kl_22) dL_law_235 ?_
  refine lv_land X.1 X.2.1 dL_law_238 ?_
  refine lv_lor X.1 X.2.1 dL_law_239 ?_
  rw [show Int64.ofInt (shv (xv xs (i + 5))) ||| (Int64.ofInt (xv xs (i + 6)) &&& 4294967295) = Int64.ofInt (fdv (xv xs (i + 5)) (xv xs (i + 6))) from (Int64.ofInt_toInt _).symm]
  refine w_callV (av := [zl (fdv (xv xs (i + 1)) (xv xs (i + 2))), zl (fdv (xv xs (i + 3)) (xv xs (i + 4))), zl (fdv (xv xs (i + 5)) (xv xs (i + 6)))]) (rest := []) X S hl.1 t1 ⟨fdv_in, fdv_in, fdv_in, trivial⟩ lkL_24 kd_0 rfl rfl rfl (Nat.le_of_ble_eq_true rfl) ⟨Nat.le_of_ble_eq_true rfl, Nat.le_of_ble_eq_true rfl⟩ hcs0 dL_law_240 (fun H locs S hok => ?_)
  have S : WSt D cA A s ad M1 H locs := S
  show W _ _ _ _ _ _ _ _ _ _ _ _ _ _ _ (F0 m 243 ls [.int (Int32.ofInt x)])
  refine lv_aload_n X.1 X.2.1 dL_law_243 rfl (lv_at hl 2 rfl) ?_
  refine l_arg (j := 1) C S (lv_at hl 4 rfl) (lv_at hl 0 rfl) hi (by decide) rfl dL_law_244 dL_law_245 dL_law_247 dL_law_248 dL_law_249 ?_
  refine lv_i2l (v := Int64.ofInt (xv xs (i + 1))) X.1 X.2.1 dL_law_250 (i2l_of xv_in) ?_
  refine lv_bipush (v := 32) X.1 X.2.1 dL_law_251 (by decide) ?_
  refine lv_lshl (v := Int64.ofInt (shv (xv xs (i + 1)))) X.1 X.2.1 dL_law_253 (Int64.ofInt_toInt _).symm ?_
  refine l_arg (j := 2) C S (lv_at hl 4 rfl) (lv_at hl 0 rfl) hi (by decide) rfl dL_law_254 dL_law_255 dL_law_257 dL_law_258 dL_law_259 ?_
  refine lv_i2l (v := Int64.ofInt (xv xs (i + 2))) X.1 X.2.1 dL_law_260 (i2l_of xv_in) ?_
  refine lv_ldc2 X.1 X.2.1 X.2.2.2.1 (X.2.2.2.2.1 _ kl_22) dL_law_261 ?_
  refine lv_land X.1 X.2.1 dL_law_264 ?_
  refine lv_lor X.1 X.2.1 dL_law_265 ?_
  rw [show Int64.ofInt (shv (xv xs (i + 1))) ||| (Int64.ofInt (xv xs (i + 2)) &&& 4294967295) = Int64.ofInt (fdv (xv xs (i + 1)) (xv xs (i + 2))) from (Int64.ofInt_toInt _).symm]
  refine l_arg (j := 3) C S (lv_at hl 4 rfl) (lv_at hl 0 rfl) hi (by decide) rfl dL_law_266 dL_law_267 dL_law_269 dL_law_270 dL_law_271 ?_
  refine lv_i2l (v := Int64.ofInt (xv xs (i + 3))) X.1 X.2.1 dL_law_272 (i2l_of xv_in) ?_
  refine lv_bipush (v := 32) X.1 X.2.1 dL_law_273 (by decide) ?_
  refine lv_lshl (v := Int64.ofInt (shv (xv xs (i + 3)))) X.1 X.2.1 dL_law_275 (Int64.ofInt_toInt _).symm ?_
  refine l_arg (j := 4) C S (lv_at hl 4 rfl) (lv_at hl 0 rfl) hi (by decide) rfl dL_law_276 dL_law_277 dL_law_279 dL_law_280 dL_law_281 ?_
  refine lv_i2l (v := Int64.ofInt (xv xs (i + 4))) X.1 X.2.1 dL_law_282 (i2l_of xv_in) ?_
  refine lv_ldc2 X.1 X.2.1 X.2.2.2.1 (X.2.2.2.2.1 _ kl_22) dL_law_283 ?_
  refine lv_land X.1 X.2.1 dL_law_286 ?_
  refine lv_lor X.1 X.2.1 dL_law_287 ?_
  rw [show Int64.ofInt (shv (xv xs (i + 3))) ||| (Int64.ofInt (xv xs (i + 4)) &&& 4294967295) = Int64.ofInt (fdv (xv xs (i + 3)) (xv xs (i + 4))) from (Int64.ofInt_toInt _).symm]
  refine l_arg (j := 5) C S (lv_at hl 4 rfl) (lv_at hl 0 rfl) hi (by decide) rfl dL_law_288 dL_law_289 dL_law_291 dL_law_292 dL_law_293 ?_
  refine lv_i2l (v := Int64.ofInt (xv xs (i + 5))) X.1 X.2.1 dL_law_294 (i2l_of xv_in) ?_
  refine lv_bipush (v := 32) X.1 X.2.1 dL_law_295 (by decide) ?_
  refine lv_lshl (v := Int64.ofInt (shv (xv xs (i + 5)))) X.1 X.2.1 dL_law_297 (Int64.ofInt_toInt _).symm ?_
  refine l_arg6 C S (lv_at hl 4 rfl) (lv_at hl 0 rfl) hi dL_law_298 dL_law_299 dL_law_301 dL_law_303 dL_law_304 ?_
  refine lv_i2l (v := Int64.ofInt (xv xs (i + 6))) X.1 X.2.1 dL_law_305 (i2l_of xv_in) ?_
  refine lv_ldc2 X.1 X.2.1 X.2.2.2.1 (X.2.2.2.2.1 _ kl_22) dL_law_306 ?_
  refine lv_land X.1 X.2.1 dL_law_309 ?_
  refine lv_lor X.1 X.2.1 dL_law_310 ?_
  rw [show Int64.ofInt (shv (xv xs (i + 5))) ||| (Int64.ofInt (xv xs (i + 6)) &&& 4294967295) = Int64.ofInt (fdv (xv xs (i + 5)) (xv xs (i + 6))) from (Int64.ofInt_toInt _).symm]
  refine w_callV (av := [zl (fdv (xv xs (i + 1)) (xv xs (i + 2))), zl (fdv (xv xs (i + 3)) (xv xs (i + 4))), zl (fdv (xv xs (i + 5)) (xv xs (i + 6)))]) (rest := [.int (Int32.ofInt x)]) X S hl.1 t2 ⟨fdv_in, fdv_in, fdv_in, trivial⟩ lkL_28 kd_132 rfl rfl rfl (Nat.le_of_ble_eq_true rfl) ⟨Nat.le_of_ble_eq_true rfl, Nat.le_of_ble_eq_true rfl⟩ hcs0 dL_law_311 (fun H locs S hok => ?_)
  have S : WSt D cA A s ad M2 H locs := S
  show W _ _ _ _ _ _ _ _ _ _ _ _ _ _ _ (F0 m 314 ls [.int (Int32.ofInt x), .int (Int32.ofInt x)])
  refine lv_icmp_eq (tgt := 1311) X.1 X.2.1 dL_law_314 (by decide) (fun _ => ?_) (fun hc => absurd rfl hc)
  exact K ad M2 H locs ls cells slots hI2 S hl (by omega) (by omega)
set_option maxHeartbeats 4000000 in
set_option maxRecDepth 20000 in
theorem law_1 (C : LC p l s m c b L xs D cA A) (S : WSt D cA A s ad M H locs) (hI : Inv M) (hl : lv_has ls 7 (lL ad b i)) (hi : i + 7 ≤ L) (hcs : cells + 1 ≤ 601024 ∧ slots + 4096 ≤ 7293033) (K : LK p l e s m below meth c b i D cA A Q cells slots) : W p l e room_1 s m #[Value.ref b] below meth c H locs cells slots Q (F0 m 319 ls []) := by
  have X := C.1
  have hcs0 : cells ≤ 601024 ∧ slots ≤ 7293033 := ⟨by omega, by omega⟩
  obtain ⟨x, M1, M2, e1, e2, hI2⟩ := i_shader hI 
  have t1 := tX11_shader  M
  rw [e1] at t1
  have t2 := tX12_shader  M1
  rw [e2] at t2
  refine lv_aload_n X.1 X.2.1 dL_law_319 rfl (lv_at hl 3 rfl) ?_
  refine w_callV (av := []) (rest := []) X S hl.1 t1 trivial lkL_29 kd_0 rfl rfl rfl (Nat.le_of_ble_eq_true rfl) ⟨Nat.le_of_ble_eq_true rfl, Nat.le_of_ble_eq_true rfl⟩ hcs0 dL_law_320 (fun H locs S hok => ?_)
  have S : WSt D cA A s ad M1 H locs := S
  show W _ _ _ _ _ _ _ _ _ _ _ _ _ _ _ (F0 m 323 ls [.int (Int32.ofInt x)])
  refine lv_aload_n X.1 X.2.1 dL_law_323 rfl (lv_at hl 2 rfl) ?_
  refine w_callV (av := []) (rest := [.int (Int32.ofInt x)]) X S hl.1 t2 trivial lkL_33 kd_132 rfl rfl rfl (Nat.le_of_ble_eq_true rfl) ⟨Nat.le_of_ble_eq_true rfl, Nat.le_of_ble_eq_true rfl⟩ hcs0 dL_law_324 (fun H locs S hok => ?_)
  have S : WSt D cA A s ad M2 H locs := S
  show W _ _ _ _ _ _ _ _ _ _ _ _ _ _ _ (F0 m 327 ls [.int (Int32.ofInt x), .int (Int32.ofInt x)])
  refine lv_icmp_eq (tgt := 1311) X.1 X.2.1 dL_law_327 (by decide) (fun _ => ?_) (fun hc => absurd rfl hc)
  exact K ad M2 H locs ls cells slots hI2 S hl (by omega) (by omega)
set_option maxHeartbeats 4000000 in
set_option maxRecDepth 20000 in
theorem law_2 (C : LC p l s m c b L xs D cA A) (S : WSt D cA A s ad M H locs) (hI : Inv M) (hl : lv_has ls 7 (lL ad b i)) (hi : i + 7 ≤ L) (hcs : cells + 1 ≤ 601024 ∧ slots + 4096 ≤ 7293033) (K : LK p l e s m below meth c b i D cA A Q cells slots) : W p l e room_1 s m #[Value.ref b] below meth c H locs cells slots Q (F0 m 332 ls []) := by
  have X := C.1
  have hcs0 : cells ≤ 601024 ∧ slots ≤ 7293033 := ⟨by omega, by omega⟩
  obtain ⟨x, M1, M2, e1, e2, hI2⟩ := i_set hI (xv xs (i + 1)) (xv xs (i + 2)) (xv xs (i + 3))
  have t1 := tX11_set (xv xs (i + 1)) (xv xs (i + 2)) (xv xs (i + 3)) M
  rw [e1] at t1
  have t2 := tX12_set (xv xs (i + 1)) (xv xs (i + 2)) (xv xs (i + 3)) M1
  rw [e2] at t2
  refine lv_aload_n X.1 X.2.1 dL_law_332 rfl (lv_at hl 3 rfl) ?_
  refine l_arg (j := 1) C S (lv_at hl 4 rfl) (lv_at hl 0 rfl) hi (by decide) rfl dL_law_333 dL_law_334 dL_law_336 dL_law_337 dL_law_338 ?_
  refine l_arg (j := 2) C S (lv_at hl 4 rfl) (lv_at hl 0 rfl) hi (by decide) rfl dL_law_339 dL_law_340 dL_law_342 dL_law_343 dL_law_344 ?_
  refine l_arg (j := 3) C S (lv_at hl 4 rfl) (lv_at hl 0 rfl) hi (by decide) rfl dL_law_345 dL_law_346 dL_law_348 dL_law_349 dL_law_350 ?_
  refine w_callV (av := [zi (xv xs (i + 1)), zi (xv xs (i + 2)), zi (xv xs (i + 3))]) (rest := []) X S hl.1 t1 ⟨xv_in, xv_in, xv_in, trivial⟩ lkL_34 kd_0 rfl rfl rfl (Nat.le_of_ble_eq_true rfl) ⟨Nat.le_of_ble_eq_true rfl, Nat.le_of_ble_eq_true rfl⟩ hcs0 dL_law_351 (fun H locs S hok => ?_)
  have S : WSt D cA A s ad M1 H locs := S
  show W _ _ _ _ _ _ _ _ _ _ _ _ _ _ _ (F0 m 354 ls [.int (Int32.ofInt x)])
  refine lv_aload_n X.1 X.2.1 dL_law_354 rfl (lv_at hl 2 rfl) ?_
  refine l_arg (j := 1) C S (lv_at hl 4 rfl) (lv_at hl 0 rfl) hi (by decide) rfl dL_law_355 dL_law_356 dL_law_358 dL_law_359 dL_law_360 ?_
  refine l_arg (j := 2) C S (lv_at hl 4 rfl) (lv_at hl 0 rfl) hi (by decide) rfl dL_law_361 dL_law_362 dL_law_364 dL_law_365 dL_law_366 ?_
  refine l_arg (j := 3) C S (lv_at hl 4 rfl) (lv_at hl 0 rfl) hi (by decide) rfl dL_law_367 dL_law_368 dL_law_370 dL_law_371 dL_law_372 ?_
  refine w_callV (av := [zi (xv xs (i + 1)), zi (xv xs (i + 2)), zi (xv xs (i + 3))]) (rest := [.int (Int32.ofInt x)]) X S hl.1 t2 ⟨xv_in, xv_in, xv_in, trivial⟩ lkL_38 kd_132 rfl rfl rfl (Nat.le_of_ble_eq_true rfl) ⟨Nat.le_of_ble_eq_true rfl, Nat.le_of_ble_eq_true rfl⟩ hcs0 dL_law_373 (fun H locs S hok => ?_)
  have S : WSt D cA A s ad M2 H locs := S
  show W _ _ _ _ _ _ _ _ _ _ _ _ _ _ _ (F0 m 376 ls [.int (Int32.ofInt x), .int (Int32.ofInt x)])
  refine lv_icmp_eq (tgt := 1311) X.1 X.2.1 dL_law_376 (by decide) (fun _ => ?_) (fun hc => absurd rfl hc)
  exact K ad M2 H locs ls cells slots hI2 S hl (by omega) (by omega)
set_option maxHeartbeats 4000000 in
set_option maxRecDepth 20000 in
theorem law_3 (C : LC p l s m c b L xs D cA A) (S : WSt D cA A s ad M H locs) (hI : Inv M) (hl : lv_has ls 7 (lL ad b i)) (hi : i + 7 ≤ L) (hcs : cells + 1 ≤ 601024 ∧ slots + 4096 ≤ 7293033) (K : LK p l e s m below meth c b i D cA A Q cells slots) : W p l e room_1 s m #[Value.ref b] below meth c H locs cells slots Q (F0 m 381 ls []) := by
  have X := C.1
  have hcs0 : cells ≤ 601024 ∧ slots ≤ 7293033 := ⟨by omega, by omega⟩
  obtain ⟨x, M1, M2, e1, e2, hI2⟩ := i_cell hI (xv xs (i + 1)) (xv xs (i + 2))
  have t1 := tX11_cell (xv xs (i + 1)) (xv xs (i + 2)) M
  rw [e1] at t1
  have t2 := tX12_cell (xv xs (i + 1)) (xv xs (i + 2)) M1
  rw [e2] at t2
  refine lv_aload_n X.1 X.2.1 dL_law_381 rfl (lv_at hl 3 rfl) ?_
  refine l_arg (j := 1) C S (lv_at hl 4 rfl) (lv_at hl 0 rfl) hi (by decide) rfl dL_law_382 dL_law_383 dL_law_385 dL_law_386 dL_law_387 ?_
  refine l_arg (j := 2) C S (lv_at hl 4 rfl) (lv_at hl 0 rfl) hi (by decide) rfl dL_law_388 dL_law_389 dL_law_391 dL_law_392 dL_law_393 ?_
  refine w_callV (av := [zi (xv xs (i + 1)), zi (xv xs (i + 2))]) (rest := []) X S hl.1 t1 ⟨xv_in, xv_in, trivial⟩ lkL_39 kd_0 rfl rfl rfl (Nat.le_of_ble_eq_true rfl) ⟨Nat.le_of_ble_eq_true rfl, Nat.le_of_ble_eq_true rfl⟩ hcs0 dL_law_394 (fun H locs S hok => ?_)
  have S : WSt D cA A s ad M1 H locs := S
  show W _ _ _ _ _ _ _ _ _ _ _ _ _ _ _ (F0 m 397 ls [.int (Int32.ofInt x)])
  refine lv_aload_n X.1 X.2.1 dL_law_397 rfl (lv_at hl 2 rfl) ?_
  refine l_arg (j := 1) C S (lv_at hl 4 rfl) (lv_at hl 0 rfl) hi (by decide) rfl dL_law_398 dL_law_399 dL_law_401 dL_law_402 dL_law_403 ?_
  refine l_arg (j := 2) C S (lv_at hl 4 rfl) (lv_at hl 0 rfl) hi (by decide) rfl dL_law_404 dL_law_405 dL_law_407 dL_law_408 dL_law_409 ?_
  refine w_callV (av := [zi (xv xs (i + 1)), zi (xv xs (i + 2))]) (rest := [.int (Int32.ofInt x)]) X S hl.1 t2 ⟨xv_in, xv_in, trivial⟩ lkL_42 kd_132 rfl rfl rfl (Nat.le_of_ble_eq_true rfl) ⟨Nat.le_of_ble_eq_true rfl, Nat.le_of_ble_eq_true rfl⟩ hcs0 dL_law_410 (fun H locs S hok => ?_)
  have S : WSt D cA A s ad M2 H locs := S
  show W _ _ _ _ _ _ _ _ _ _ _ _ _ _ _ (F0 m 413 ls [.int (Int32.ofInt x), .int (Int32.ofInt x)])
  refine lv_icmp_eq (tgt := 1311) X.1 X.2.1 dL_law_413 (by decide) (fun _ => ?_) (fun hc => absurd rfl hc)
  exact K ad M2 H locs ls cells slots hI2 S hl (by omega) (by omega)
set_option maxHeartbeats 4000000 in
set_option maxRecDepth 20000 in
theorem law_4 (C : LC p l s m c b L xs D cA A) (S : WSt D cA A s ad M H locs) (hI : Inv M) (hl : lv_has ls 7 (lL ad b i)) (hi : i + 7 ≤ L) (hcs : cells + 1 ≤ 601024 ∧ slots + 4096 ≤ 7293033) (K : LK p l e s m below meth c b i D cA A Q cells slots) : W p l e room_1 s m #[Value.ref b] below meth c H locs cells slots Q (F0 m 418 ls []) := by
  have X := C.1
  have hcs0 : cells ≤ 601024 ∧ slots ≤ 7293033 := ⟨by omega, by omega⟩
  obtain ⟨x, M1, M2, e1, e2, hI2⟩ := i_rule hI (xv xs (i + 1))
  have t1 := tX11_rule (xv xs (i + 1)) M
  rw [e1] at t1
  have t2 := tX12_rule (xv xs (i + 1)) M1
  rw [e2] at t2
  refine lv_aload_n X.1 X.2.1 dL_law_418 rfl (lv_at hl 3 rfl) ?_
  refine l_arg (j := 1) C S (lv_at hl 4 rfl) (lv_at hl 0 rfl) hi (by decide) rfl dL_law_419 dL_law_420 dL_law_422 dL_law_423 dL_law_424 ?_
  refine w_callV (av := [zi (xv xs (i + 1))]) (rest := []) X S hl.1 t1 ⟨xv_in, trivial⟩ lkL_43 kd_0 rfl rfl rfl (Nat.le_of_ble_eq_true rfl) ⟨Nat.le_of_ble_eq_true rfl, Nat.le_of_ble_eq_true rfl⟩ hcs0 dL_law_425 (fun H locs S hok => ?_)
  have S : WSt D cA A s ad M1 H locs := S
  show W _ _ _ _ _ _ _ _ _ _ _ _ _ _ _ (F0 m 428 ls [.int (Int32.ofInt x)])
  refine lv_aload_n X.1 X.2.1 dL_law_428 rfl (lv_at hl 2 rfl) ?_
  refine l_arg (j := 1) C S (lv_at hl 4 rfl) (lv_at hl 0 rfl) hi (by decide) rfl dL_law_429 dL_law_430 dL_law_432 dL_law_433 dL_law_434 ?_
  refine w_callV (av := [zi (xv xs (i + 1))]) (rest := [.int (Int32.ofInt x)]) X S hl.1 t2 ⟨xv_in, trivial⟩ lkL_47 kd_132 rfl rfl rfl (Nat.le_of_ble_eq_true rfl) ⟨Nat.le_of_ble_eq_true rfl, Nat.le_of_ble_eq_true rfl⟩ hcs0 dL_law_435 (fun H locs S hok => ?_)
  have S : WSt D cA A s ad M2 H locs := S
  show W _ _ _ _ _ _ _ _ _ _ _ _ _ _ _ (F0 m 438 ls [.int (Int32.ofInt x), .int (Int32.ofInt x)])
  refine lv_icmp_eq (tgt := 1311) X.1 X.2.1 dL_law_438 (by decide) (fun _ => ?_) (fun hc => absurd rfl hc)
  exact K ad M2 H locs ls cells slots hI2 S hl (by omega) (by omega)
set_option maxHeartbeats 4000000 in
set_option maxRecDepth 20000 in
theorem law_5 (C : LC p l s m c b L xs D cA A) (S : WSt D cA A s ad M H locs) (hI : Inv M) (hl : lv_has ls 7 (lL ad b i)) (hi : i + 7 ≤ L) (hcs : cells + 1 ≤ 601024 ∧ slots + 4096 ≤ 7293033) (K : LK p l e s m below meth c b i D cA A Q cells slots) : W p l e room_1 s m #[Value.ref b] below meth c H locs cells slots Q (F0 m 443 ls []) := by
  have X := C.1
  have hcs0 : cells ≤ 601024 ∧ slots ≤ 7293033 := ⟨by omega, by omega⟩
  obtain ⟨x, M1, M2, e1, e2, hI2⟩ := i_narrow hI (xv xs (i + 1)) (xv xs (i + 2)) (xv xs (i + 3))
  have t1 := tX11_narrow (xv xs (i + 1)) (xv xs (i + 2)) (xv xs (i + 3)) M
  rw [e1] at t1
  have t2 := tX12_narrow (xv xs (i + 1)) (xv xs (i + 2)) (xv xs (i + 3)) M1
  rw [e2] at t2
  refine lv_aload_n X.1 X.2.1 dL_law_443 rfl (lv_at hl 3 rfl) ?_
  refine l_arg (j := 1) C S (lv_at hl 4 rfl) (lv_at hl 0 rfl) hi (by decide) rfl dL_law_444 dL_law_445 dL_law_447 dL_law_448 dL_law_449 ?_
  refine l_arg (j := 2) C S (lv_at hl 4 rfl) (lv_at hl 0 rfl) hi (by decide) rfl dL_law_450 dL_law_451 dL_law_453 dL_law_454 dL_law_455 ?_
  refine l_arg (j := 3) C S (lv_at hl 4 rfl) (lv_at hl 0 rfl) hi (by decide) rfl dL_law_456 dL_law_457 dL_law_459 dL_law_460 dL_law_461 ?_
  refine w_callV (av := [zi (xv xs (i + 1)), zi (xv xs (i + 2)), zi (xv xs (i + 3))]) (rest := []) X S hl.1 t1 ⟨xv_in, xv_in, xv_in, trivial⟩ lkL_48 kd_0 rfl rfl rfl (Nat.le_of_ble_eq_true rfl) ⟨Nat.le_of_ble_eq_true rfl, Nat.le_of_ble_eq_true rfl⟩ hcs0 dL_law_462 (fun H locs S hok => ?_)
  have S : WSt D cA A s ad M1 H locs := S
  show W _ _ _ _ _ _ _ _ _ _ _ _ _ _ _ (F0 m 465 ls [.int (Int32.ofInt x)])
  refine lv_aload_n X.1 X.2.1 dL_law_465 rfl (lv_at hl 2 rfl) ?_
  refine l_arg (j := 1) C S (lv_at hl 4 rfl) (lv_at hl 0 rfl) hi (by decide) rfl dL_law_466 dL_law_467 dL_law_469 dL_law_470 dL_law_471 ?_
  refine l_arg (j := 2) C S (lv_at hl 4 rfl) (lv_at hl 0 rfl) hi (by decide) rfl dL_law_472 dL_law_473 dL_law_475 dL_law_476 dL_law_477 ?_
  refine l_arg (j := 3) C S (lv_at hl 4 rfl) (lv_at hl 0 rfl) hi (by decide) rfl dL_law_478 dL_law_479 dL_law_481 dL_law_482 dL_law_483 ?_
  refine w_callV (av := [zi (xv xs (i + 1)), zi (xv xs (i + 2)), zi (xv xs (i + 3))]) (rest := [.int (Int32.ofInt x)]) X S hl.1 t2 ⟨xv_in, xv_in, xv_in, trivial⟩ lkL_52 kd_132 rfl rfl rfl (Nat.le_of_ble_eq_true rfl) ⟨Nat.le_of_ble_eq_true rfl, Nat.le_of_ble_eq_true rfl⟩ hcs0 dL_law_484 (fun H locs S hok => ?_)
  have S : WSt D cA A s ad M2 H locs := S
  show W _ _ _ _ _ _ _ _ _ _ _ _ _ _ _ (F0 m 487 ls [.int (Int32.ofInt x), .int (Int32.ofInt x)])
  refine lv_icmp_eq (tgt := 1311) X.1 X.2.1 dL_law_487 (by decide) (fun _ => ?_) (fun hc => absurd rfl hc)
  exact K ad M2 H locs ls cells slots hI2 S hl (by omega) (by omega)
set_option maxHeartbeats 4000000 in
set_option maxRecDepth 20000 in
theorem law_6 (C : LC p l s m c b L xs D cA A) (S : WSt D cA A s ad M H locs) (hI : Inv M) (hl : lv_has ls 7 (lL ad b i)) (hi : i + 7 ≤ L) (hcs : cells + 1 ≤ 601024 ∧ slots + 4096 ≤ 7293033) (K : LK p l e s m below meth c b i D cA A Q cells slots) : W p l e room_1 s m #[Value.ref b] below meth c H locs cells slots Q (F0 m 492 ls []) := by
  have X := C.1
  have hcs0 : cells ≤ 601024 ∧ slots ≤ 7293033 := ⟨by omega, by omega⟩
  obtain ⟨t, n, nI, nS, D9, k1, k2, -, -, -⟩ := id hI
  obtain ⟨x, M1, M2, e1, e2, hI2⟩ := AnsI_q hI (q_input k1 (xv xs (i + 1)) (xv xs (i + 2)))
  have t1 := tX11_input (xv xs (i + 1)) (xv xs (i + 2)) M
  rw [e1] at t1
  have t2 := tX12_input (xv xs (i + 1)) (xv xs (i + 2)) M1
  rw [e2] at t2
  refine lv_aload_n X.1 X.2.1 dL_law_492 rfl (lv_at hl 3 rfl) ?_
  refine l_arg (j := 1) C S (lv_at hl 4 rfl) (lv_at hl 0 rfl) hi (by decide) rfl dL_law_493 dL_law_494 dL_law_496 dL_law_497 dL_law_498 ?_
  refine l_arg (j := 2) C S (lv_at hl 4 rfl) (lv_at hl 0 rfl) hi (by decide) rfl dL_law_499 dL_law_500 dL_law_502 dL_law_503 dL_law_504 ?_
  refine w_callV (av := [zi (xv xs (i + 1)), zi (xv xs (i + 2))]) (rest := []) X S hl.1 t1 ⟨xv_in, xv_in, trivial⟩ lkL_53 kd_0 rfl rfl rfl (Nat.le_of_ble_eq_true rfl) ⟨Nat.le_of_ble_eq_true rfl, Nat.le_of_ble_eq_true rfl⟩ hcs0 dL_law_505 (fun H locs S hok => ?_)
  have S : WSt D cA A s ad M1 H locs := S
  show W _ _ _ _ _ _ _ _ _ _ _ _ _ _ _ (F0 m 508 ls [.int (Int32.ofInt x)])
  refine lv_aload_n X.1 X.2.1 dL_law_508 rfl (lv_at hl 2 rfl) ?_
  refine l_arg (j := 1) C S (lv_at hl 4 rfl) (lv_at hl 0 rfl) hi (by decide) rfl dL_law_509 dL_law_510 dL_law_512 dL_law_513 dL_law_514 ?_
  refine l_arg (j := 2) C S (lv_at hl 4 rfl) (lv_at hl 0 rfl) hi (by decide) rfl dL_law_515 dL_law_516 dL_law_518 dL_law_519 dL_law_520 ?_
  refine w_callV (av := [zi (xv xs (i + 1)), zi (xv xs (i + 2))]) (rest := [.int (Int32.ofInt x)]) X S hl.1 t2 ⟨xv_in, xv_in, trivial⟩ lkL_56 kd_132 rfl rfl rfl (Nat.le_of_ble_eq_true rfl) ⟨Nat.le_of_ble_eq_true rfl, Nat.le_of_ble_eq_true rfl⟩ hcs0 dL_law_521 (fun H locs S hok => ?_)
  have S : WSt D cA A s ad M2 H locs := S
  show W _ _ _ _ _ _ _ _ _ _ _ _ _ _ _ (F0 m 524 ls [.int (Int32.ofInt x), .int (Int32.ofInt x)])
  refine lv_icmp_eq (tgt := 1311) X.1 X.2.1 dL_law_524 (by decide) (fun _ => ?_) (fun hc => absurd rfl hc)
  exact K ad M2 H locs ls cells slots hI2 S hl (by omega) (by omega)
set_option maxHeartbeats 4000000 in
set_option maxRecDepth 20000 in
theorem law_7 (C : LC p l s m c b L xs D cA A) (S : WSt D cA A s ad M H locs) (hI : Inv M) (hl : lv_has ls 7 (lL ad b i)) (hi : i + 7 ≤ L) (hcs : cells + 1 ≤ 601024 ∧ slots + 4096 ≤ 7293033) (K : LK p l e s m below meth c b i D cA A Q cells slots) : W p l e room_1 s m #[Value.ref b] below meth c H locs cells slots Q (F0 m 529 ls []) := by
  have X := C.1
  have hcs0 : cells ≤ 601024 ∧ slots ≤ 7293033 := ⟨by omega, by omega⟩
  obtain ⟨t, n, nI, nS, D9, k1, k2, -, -, -⟩ := id hI
  obtain ⟨x, M1, M2, e1, e2, hI2⟩ := AnsI_q hI (q_value k1 k2 (xv xs (i + 1)) (xv xs (i + 2)))
  have t1 := tX11_value (xv xs (i + 1)) (xv xs (i + 2)) M
  rw [e1] at t1
  have t2 := tX12_value (xv xs (i + 1)) (xv xs (i + 2)) M1
  rw [e2] at t2
  refine lv_aload_n X.1 X.2.1 dL_law_529 rfl (lv_at hl 3 rfl) ?_
  refine l_arg (j := 1) C S (lv_at hl 4 rfl) (lv_at hl 0 rfl) hi (by decide) rfl dL_law_530 dL_law_531 dL_law_533 dL_law_534 dL_law_535 ?_
  refine l_arg (j := 2) C S (lv_at hl 4 rfl) (lv_at hl 0 rfl) hi (by decide) rfl dL_law_536 dL_law_537 dL_law_539 dL_law_540 dL_law_541 ?_
  refine w_callV (av := [zi (xv xs (i + 1)), zi (xv xs (i + 2))]) (rest := []) X S hl.1 t1 ⟨xv_in, xv_in, trivial⟩ lkL_57 kd_0 rfl rfl rfl (Nat.le_of_ble_eq_true rfl) ⟨Nat.le_of_ble_eq_true rfl, Nat.le_of_ble_eq_true rfl⟩ hcs0 dL_law_542 (fun H locs S hok => ?_)
  have S : WSt D cA A s ad M1 H locs := S
  show W _ _ _ _ _ _ _ _ _ _ _ _ _ _ _ (F0 m 545 ls [.int (Int32.ofInt x)])
  refine lv_aload_n X.1 X.2.1 dL_law_545 rfl (lv_at hl 2 rfl) ?_
  refine l_arg (j := 1) C S (lv_at hl 4 rfl) (lv_at hl 0 rfl) hi (by decide) rfl dL_law_546 dL_law_547 dL_law_549 dL_law_550 dL_law_551 ?_
  refine l_arg (j := 2) C S (lv_at hl 4 rfl) (lv_at hl 0 rfl) hi (by decide) rfl dL_law_552 dL_law_553 dL_law_555 dL_law_556 dL_law_557 ?_
  refine w_callV (av := [zi (xv xs (i + 1)), zi (xv xs (i + 2))]) (rest := [.int (Int32.ofInt x)]) X S hl.1 t2 ⟨xv_in, xv_in, trivial⟩ lkL_60 kd_132 rfl rfl rfl (Nat.le_of_ble_eq_true rfl) ⟨Nat.le_of_ble_eq_true rfl, Nat.le_of_ble_eq_true rfl⟩ hcs0 dL_law_558 (fun H locs S hok => ?_)
  have S : WSt D cA A s ad M2 H locs := S
  show W _ _ _ _ _ _ _ _ _ _ _ _ _ _ _ (F0 m 561 ls [.int (Int32.ofInt x), .int (Int32.ofInt x)])
  refine lv_icmp_eq (tgt := 1311) X.1 X.2.1 dL_law_561 (by decide) (fun _ => ?_) (fun hc => absurd rfl hc)
  exact K ad M2 H locs ls cells slots hI2 S hl (by omega) (by omega)
set_option maxHeartbeats 4000000 in
set_option maxRecDepth 20000 in
theorem law_8 (C : LC p l s m c b L xs D cA A) (S : WSt D cA A s ad M H locs) (hI : Inv M) (hl : lv_has ls 7 (lL ad b i)) (hi : i + 7 ≤ L) (hcs : cells + 1 ≤ 601024 ∧ slots + 4096 ≤ 7293033) (K : LK p l e s m below meth c b i D cA A Q cells slots) : W p l e room_1 s m #[Value.ref b] below meth c H locs cells slots Q (F0 m 566 ls []) := by
  have X := C.1
  have hcs0 : cells ≤ 601024 ∧ slots ≤ 7293033 := ⟨by omega, by omega⟩
  obtain ⟨t, n, nI, nS, D9, k1, k2, -, -, -⟩ := id hI
  obtain ⟨x, M1, M2, e1, e2, hI2⟩ := AnsI_q hI (q_range k1 k2 (xv xs (i + 1)) (xv xs (i + 2)))
  have t1 := tX11_range (xv xs (i + 1)) (xv xs (i + 2)) M
  rw [e1] at t1
  have t2 := tX12_range (xv xs (i + 1)) (xv xs (i + 2)) M1
  rw [e2] at t2
  refine lv_aload_n X.1 X.2.1 dL_law_566 rfl (lv_at hl 3 rfl) ?_
  refine l_arg (j := 1) C S (lv_at hl 4 rfl) (lv_at hl 0 rfl) hi (by decide) rfl dL_law_567 dL_law_568 dL_law_570 dL_law_571 dL_law_572 ?_
  refine l_arg (j := 2) C S (lv_at hl 4 rfl) (lv_at hl 0 rfl) hi (by decide) rfl dL_law_573 dL_law_574 dL_law_576 dL_law_577 dL_law_578 ?_
  refine w_callV (av := [zi (xv xs (i + 1)), zi (xv xs (i + 2))]) (rest := []) X S hl.1 t1 ⟨xv_in, xv_in, trivial⟩ lkL_61 kd_0 rfl rfl rfl (Nat.le_of_ble_eq_true rfl) ⟨Nat.le_of_ble_eq_true rfl, Nat.le_of_ble_eq_true rfl⟩ hcs0 dL_law_579 (fun H locs S hok => ?_)
  have S : WSt D cA A s ad M1 H locs := S
  show W _ _ _ _ _ _ _ _ _ _ _ _ _ _ _ (F0 m 582 ls [.int (Int32.ofInt x)])
  refine lv_aload_n X.1 X.2.1 dL_law_582 rfl (lv_at hl 2 rfl) ?_
  refine l_arg (j := 1) C S (lv_at hl 4 rfl) (lv_at hl 0 rfl) hi (by decide) rfl dL_law_583 dL_law_584 dL_law_586 dL_law_587 dL_law_588 ?_
  refine l_arg (j := 2) C S (lv_at hl 4 rfl) (lv_at hl 0 rfl) hi (by decide) rfl dL_law_589 dL_law_590 dL_law_592 dL_law_593 dL_law_594 ?_
  refine w_callV (av := [zi (xv xs (i + 1)), zi (xv xs (i + 2))]) (rest := [.int (Int32.ofInt x)]) X S hl.1 t2 ⟨xv_in, xv_in, trivial⟩ lkL_64 kd_132 rfl rfl rfl (Nat.le_of_ble_eq_true rfl) ⟨Nat.le_of_ble_eq_true rfl, Nat.le_of_ble_eq_true rfl⟩ hcs0 dL_law_595 (fun H locs S hok => ?_)
  have S : WSt D cA A s ad M2 H locs := S
  show W _ _ _ _ _ _ _ _ _ _ _ _ _ _ _ (F0 m 598 ls [.int (Int32.ofInt x), .int (Int32.ofInt x)])
  refine lv_icmp_eq (tgt := 1311) X.1 X.2.1 dL_law_598 (by decide) (fun _ => ?_) (fun hc => absurd rfl hc)
  exact K ad M2 H locs ls cells slots hI2 S hl (by omega) (by omega)
end LCases
