/-! ===== the law: each call of both, by program ===== -/
section LWC
variable {p : Program} {l : Launch} {e : Env} {s : State} {m : MethodId} {args : Array Value} {below : List Frame} {meth : Method} {c : Code} {Q : State → Prop} {D : va_G} {cT : FieldType → ClassId} {tb : Nat → Nat} {z b L cells slots : Nat} {xs : Nat → Int32} {i : Nat}
theorem lw_inc (hC : lw_Cx p s m args meth c D cT tb z b L xs cells slots) (hN : lw_Nx p l e s m args below meth c Q D cT tb z b cells slots 18 (i + 6)) : lw_Nx p l e s m args below meth c Q D cT tb z b cells slots 1217 (i) := by
  intro S H locs ls hSh hl
  have hx := hC.1.1
  have hb := hC.1.2.1
  refine lv_iinc (v := nI (i + 6)) (lv' := [(3, .int (nI (i + 6))), (0, .ref b), (1, .ref s.heap.size), (2, .ref z)]) hx hb d_law_1217 hl (k := 3) rfl (nI_add i 6) (by decide) rfl (fun ls hl => ?_)
  refine lv_goto (tgt := 18) hx hb d_law_1220 (by decide) ?_
  exact hN S H locs ls hSh (lv_sub hl [1, 2, 3, 0] rfl)
theorem lw_cmp0 (x : Int64) : lg_cmp x x = 0 := by
  unfold lg_cmp
  simp
/-- row(II)I -/
theorem lw_c0 (hC : lw_Cx p s m args meth c D cT tb z b L xs cells slots) (hi : i + 6 ≤ L) (hN : lw_Nx p l e s m args below meth c Q D cT tb z b cells slots 1217 (i)) : lw_Nx p l e s m args below meth c Q D cT tb z b cells slots 200 (i) := by
  intro S H locs ls hSh hl
  have hx := hC.1.1
  have hb := hC.1.2.1
  refine lv_aload_n hx hb d_law_200 rfl (lv_at hl 1 rfl) ?_
  refine lw_arg hC hi hl hSh (j := 1) (by decide) da_201 ?_
  refine lw_arg hC hi hl hSh (j := 2) (by decide) da_206 ?_
  refine lw_first hC am_mkr_10_13 (Nat.le_of_ble_eq_true rfl) [xs (i + 1), xs (i + 2)] rfl (fun _ => rfl) (fun hp h => pc_T_row S hp h (xs (i + 1)) (xs (i + 2))) hSh hl (Nat.le_of_ble_eq_true rfl) d_law_211 (fun H locs hSh => ?_)
  refine lv_aload_n hx hb d_law_214 rfl (lv_at hl 2 rfl) ?_
  refine lw_arg hC hi hl hSh (j := 1) (by decide) da_215 ?_
  refine lw_arg hC hi hl hSh (j := 2) (by decide) da_220 ?_
  refine lw_second hC am_mkr_10_17 (Nat.le_of_ble_eq_true rfl) [xs (i + 1), xs (i + 2)] rfl (fun _ => rfl) (fun hp h => pm_M_row S hp h (xs (i + 1)) (xs (i + 2))) hSh hl (Nat.le_of_ble_eq_true rfl) d_law_225 (fun H locs hSh => ?_)
  refine lv_icmp_eq (tgt := 1217) hx hb d_law_228 (by decide) (fun _ => ?_) (fun q => absurd rfl q)
  exact hN _ H locs ls hSh hl
/-- lay(III)I -/
theorem lw_c1 (hC : lw_Cx p s m args meth c D cT tb z b L xs cells slots) (hi : i + 6 ≤ L) (hN : lw_Nx p l e s m args below meth c Q D cT tb z b cells slots 1217 (i)) : lw_Nx p l e s m args below meth c Q D cT tb z b cells slots 233 (i) := by
  intro S H locs ls hSh hl
  have hx := hC.1.1
  have hb := hC.1.2.1
  refine lv_aload_n hx hb d_law_233 rfl (lv_at hl 1 rfl) ?_
  refine lw_arg hC hi hl hSh (j := 1) (by decide) da_234 ?_
  refine lw_arg hC hi hl hSh (j := 2) (by decide) da_239 ?_
  refine lw_arg hC hi hl hSh (j := 3) (by decide) da_244 ?_
  refine lw_first hC am_mkr_10_18 (Nat.le_of_ble_eq_true rfl) [xs (i + 1), xs (i + 2), xs (i + 3)] rfl (fun _ => rfl) (fun hp h => pc_T_lay S hp h (xs (i + 1)) (xs (i + 2)) (xs (i + 3))) hSh hl (Nat.le_of_ble_eq_true rfl) d_law_249 (fun H locs hSh => ?_)
  refine lv_aload_n hx hb d_law_252 rfl (lv_at hl 2 rfl) ?_
  refine lw_arg hC hi hl hSh (j := 1) (by decide) da_253 ?_
  refine lw_arg hC hi hl hSh (j := 2) (by decide) da_258 ?_
  refine lw_arg hC hi hl hSh (j := 3) (by decide) da_263 ?_
  refine lw_second hC am_mkr_10_22 (Nat.le_of_ble_eq_true rfl) [xs (i + 1), xs (i + 2), xs (i + 3)] rfl (fun _ => rfl) (fun hp h => pm_M_lay S hp h (xs (i + 1)) (xs (i + 2)) (xs (i + 3))) hSh hl (Nat.le_of_ble_eq_true rfl) d_law_268 (fun H locs hSh => ?_)
  refine lv_icmp_eq (tgt := 1217) hx hb d_law_271 (by decide) (fun _ => ?_) (fun q => absurd rfl q)
  exact hN _ H locs ls hSh hl
/-- at(II)I -/
theorem lw_c2 (hC : lw_Cx p s m args meth c D cT tb z b L xs cells slots) (hi : i + 6 ≤ L) (hN : lw_Nx p l e s m args below meth c Q D cT tb z b cells slots 1217 (i)) : lw_Nx p l e s m args below meth c Q D cT tb z b cells slots 276 (i) := by
  intro S H locs ls hSh hl
  have hx := hC.1.1
  have hb := hC.1.2.1
  refine lv_aload_n hx hb d_law_276 rfl (lv_at hl 1 rfl) ?_
  refine lw_arg hC hi hl hSh (j := 1) (by decide) da_277 ?_
  refine lw_arg hC hi hl hSh (j := 2) (by decide) da_282 ?_
  refine lw_first hC am_mkr_10_23 (Nat.le_of_ble_eq_true rfl) [xs (i + 1), xs (i + 2)] rfl (fun _ => rfl) (fun hp h => pc_T_at S hp h (xs (i + 1)) (xs (i + 2))) hSh hl (Nat.le_of_ble_eq_true rfl) d_law_287 (fun H locs hSh => ?_)
  refine lv_aload_n hx hb d_law_290 rfl (lv_at hl 2 rfl) ?_
  refine lw_arg hC hi hl hSh (j := 1) (by decide) da_291 ?_
  refine lw_arg hC hi hl hSh (j := 2) (by decide) da_296 ?_
  refine lw_second hC am_mkr_10_26 (Nat.le_of_ble_eq_true rfl) [xs (i + 1), xs (i + 2)] rfl (fun _ => rfl) (fun hp h => pm_M_at S hp h (xs (i + 1)) (xs (i + 2))) hSh hl (Nat.le_of_ble_eq_true rfl) d_law_301 (fun H locs hSh => ?_)
  refine lv_icmp_eq (tgt := 1217) hx hb d_law_304 (by decide) (fun _ => ?_) (fun q => absurd rfl q)
  exact hN _ H locs ls hSh hl
/-- tear(I)I -/
theorem lw_c3 (hC : lw_Cx p s m args meth c D cT tb z b L xs cells slots) (hi : i + 6 ≤ L) (hN : lw_Nx p l e s m args below meth c Q D cT tb z b cells slots 1217 (i)) : lw_Nx p l e s m args below meth c Q D cT tb z b cells slots 309 (i) := by
  intro S H locs ls hSh hl
  have hx := hC.1.1
  have hb := hC.1.2.1
  refine lv_aload_n hx hb d_law_309 rfl (lv_at hl 1 rfl) ?_
  refine lw_arg hC hi hl hSh (j := 1) (by decide) da_310 ?_
  refine lw_first hC am_mkr_10_27 (Nat.le_of_ble_eq_true rfl) [xs (i + 1)] rfl (fun _ => rfl) (fun hp h => pc_T_tear S hp h (xs (i + 1))) hSh hl (Nat.le_of_ble_eq_true rfl) d_law_315 (fun H locs hSh => ?_)
  refine lv_aload_n hx hb d_law_318 rfl (lv_at hl 2 rfl) ?_
  refine lw_arg hC hi hl hSh (j := 1) (by decide) da_319 ?_
  refine lw_second hC am_mkr_10_31 (Nat.le_of_ble_eq_true rfl) [xs (i + 1)] rfl (fun _ => rfl) (fun hp h => pm_M_tear S hp h (xs (i + 1))) hSh hl (Nat.le_of_ble_eq_true rfl) d_law_324 (fun H locs hSh => ?_)
  refine lv_icmp_eq (tgt := 1217) hx hb d_law_327 (by decide) (fun _ => ?_) (fun q => absurd rfl q)
  exact hN _ H locs ls hSh hl
/-- copy(IIIII)I -/
theorem lw_c4 (hC : lw_Cx p s m args meth c D cT tb z b L xs cells slots) (hi : i + 6 ≤ L) (hN : lw_Nx p l e s m args below meth c Q D cT tb z b cells slots 1217 (i)) : lw_Nx p l e s m args below meth c Q D cT tb z b cells slots 332 (i) := by
  intro S H locs ls hSh hl
  have hx := hC.1.1
  have hb := hC.1.2.1
  refine lv_aload_n hx hb d_law_332 rfl (lv_at hl 1 rfl) ?_
  refine lw_arg hC hi hl hSh (j := 1) (by decide) da_333 ?_
  refine lw_arg hC hi hl hSh (j := 2) (by decide) da_338 ?_
  refine lw_arg hC hi hl hSh (j := 3) (by decide) da_343 ?_
  refine lw_arg hC hi hl hSh (j := 4) (by decide) da_348 ?_
  refine lw_arg hC hi hl hSh (j := 5) (by decide) da_353 ?_
  refine lw_first hC am_mkr_10_32 (Nat.le_of_ble_eq_true rfl) [xs (i + 1), xs (i + 2), xs (i + 3), xs (i + 4), xs (i + 5)] rfl (fun _ => rfl) (fun hp h => pc_T_copy S hp h (xs (i + 1)) (xs (i + 2)) (xs (i + 3)) (xs (i + 4)) (xs (i + 5))) hSh hl (Nat.le_of_ble_eq_true rfl) d_law_358 (fun H locs hSh => ?_)
  refine lv_aload_n hx hb d_law_361 rfl (lv_at hl 2 rfl) ?_
  refine lw_arg hC hi hl hSh (j := 1) (by decide) da_362 ?_
  refine lw_arg hC hi hl hSh (j := 2) (by decide) da_367 ?_
  refine lw_arg hC hi hl hSh (j := 3) (by decide) da_372 ?_
  refine lw_arg hC hi hl hSh (j := 4) (by decide) da_377 ?_
  refine lw_arg hC hi hl hSh (j := 5) (by decide) da_382 ?_
  refine lw_second hC am_mkr_10_36 (Nat.le_of_ble_eq_true rfl) [xs (i + 1), xs (i + 2), xs (i + 3), xs (i + 4), xs (i + 5)] rfl (fun _ => rfl) (fun hp h => pm_M_copy S hp h (xs (i + 1)) (xs (i + 2)) (xs (i + 3)) (xs (i + 4)) (xs (i + 5))) hSh hl (Nat.le_of_ble_eq_true rfl) d_law_387 (fun H locs hSh => ?_)
  refine lv_icmp_eq (tgt := 1217) hx hb d_law_390 (by decide) (fun _ => ?_) (fun q => absurd rfl q)
  exact hN _ H locs ls hSh hl
/-- mean(I)I -/
theorem lw_c5 (hC : lw_Cx p s m args meth c D cT tb z b L xs cells slots) (hi : i + 6 ≤ L) (hN : lw_Nx p l e s m args below meth c Q D cT tb z b cells slots 1217 (i)) : lw_Nx p l e s m args below meth c Q D cT tb z b cells slots 395 (i) := by
  intro S H locs ls hSh hl
  have hx := hC.1.1
  have hb := hC.1.2.1
  refine lv_aload_n hx hb d_law_395 rfl (lv_at hl 1 rfl) ?_
  refine lw_arg hC hi hl hSh (j := 1) (by decide) da_396 ?_
  refine lw_first hC am_mkr_10_37 (Nat.le_of_ble_eq_true rfl) [xs (i + 1)] rfl (fun _ => rfl) (fun hp h => pc_T_mean S hp h (xs (i + 1))) hSh hl (Nat.le_of_ble_eq_true rfl) d_law_401 (fun H locs hSh => ?_)
  refine lv_aload_n hx hb d_law_404 rfl (lv_at hl 2 rfl) ?_
  refine lw_arg hC hi hl hSh (j := 1) (by decide) da_405 ?_
  refine lw_second hC am_mkr_10_40 (Nat.le_of_ble_eq_true rfl) [xs (i + 1)] rfl (fun _ => rfl) (fun hp h => pm_M_mean S hp h (xs (i + 1))) hSh hl (Nat.le_of_ble_eq_true rfl) d_law_410 (fun H locs hSh => ?_)
  refine lv_icmp_eq (tgt := 1217) hx hb d_law_413 (by decide) (fun _ => ?_) (fun q => absurd rfl q)
  exact hN _ H locs ls hSh hl
/-- text(II)I -/
theorem lw_c6 (hC : lw_Cx p s m args meth c D cT tb z b L xs cells slots) (hi : i + 6 ≤ L) (hN : lw_Nx p l e s m args below meth c Q D cT tb z b cells slots 1217 (i)) : lw_Nx p l e s m args below meth c Q D cT tb z b cells slots 418 (i) := by
  intro S H locs ls hSh hl
  have hx := hC.1.1
  have hb := hC.1.2.1
  refine lv_aload_n hx hb d_law_418 rfl (lv_at hl 1 rfl) ?_
  refine lw_arg hC hi hl hSh (j := 1) (by decide) da_419 ?_
  refine lw_arg hC hi hl hSh (j := 2) (by decide) da_424 ?_
  refine lw_first hC am_mkr_10_41 (Nat.le_of_ble_eq_true rfl) [xs (i + 1), xs (i + 2)] rfl (fun _ => rfl) (fun hp h => pc_T_text S hp h (xs (i + 1)) (xs (i + 2))) hSh hl (Nat.le_of_ble_eq_true rfl) d_law_429 (fun H locs hSh => ?_)
  refine lv_aload_n hx hb d_law_432 rfl (lv_at hl 2 rfl) ?_
  refine lw_arg hC hi hl hSh (j := 1) (by decide) da_433 ?_
  refine lw_arg hC hi hl hSh (j := 2) (by decide) da_438 ?_
  refine lw_second hC am_mkr_10_44 (Nat.le_of_ble_eq_true rfl) [xs (i + 1), xs (i + 2)] rfl (fun _ => rfl) (fun hp h => pm_M_text S hp h (xs (i + 1)) (xs (i + 2))) hSh hl (Nat.le_of_ble_eq_true rfl) d_law_443 (fun H locs hSh => ?_)
  refine lv_icmp_eq (tgt := 1217) hx hb d_law_446 (by decide) (fun _ => ?_) (fun q => absurd rfl q)
  exact hN _ H locs ls hSh hl
/-- put(III)I -/
theorem lw_c7 (hC : lw_Cx p s m args meth c D cT tb z b L xs cells slots) (hi : i + 6 ≤ L) (hN : lw_Nx p l e s m args below meth c Q D cT tb z b cells slots 1217 (i)) : lw_Nx p l e s m args below meth c Q D cT tb z b cells slots 451 (i) := by
  intro S H locs ls hSh hl
  have hx := hC.1.1
  have hb := hC.1.2.1
  refine lv_aload_n hx hb d_law_451 rfl (lv_at hl 1 rfl) ?_
  refine lw_arg hC hi hl hSh (j := 1) (by decide) da_452 ?_
  refine lw_arg hC hi hl hSh (j := 2) (by decide) da_457 ?_
  refine lw_arg hC hi hl hSh (j := 3) (by decide) da_462 ?_
  refine lw_first hC am_mkr_10_45 (Nat.le_of_ble_eq_true rfl) [xs (i + 1), xs (i + 2), xs (i + 3)] rfl (fun _ => rfl) (fun hp h => pc_T_put S hp h (xs (i + 1)) (xs (i + 2)) (xs (i + 3))) hSh hl (Nat.le_of_ble_eq_true rfl) d_law_467 (fun H locs hSh => ?_)
  refine lv_aload_n hx hb d_law_470 rfl (lv_at hl 2 rfl) ?_
  refine lw_arg hC hi hl hSh (j := 1) (by decide) da_471 ?_
  refine lw_arg hC hi hl hSh (j := 2) (by decide) da_476 ?_
  refine lw_arg hC hi hl hSh (j := 3) (by decide) da_481 ?_
  refine lw_second hC am_mkr_10_48 (Nat.le_of_ble_eq_true rfl) [xs (i + 1), xs (i + 2), xs (i + 3)] rfl (fun _ => rfl) (fun hp h => pm_M_put S hp h (xs (i + 1)) (xs (i + 2)) (xs (i + 3))) hSh hl (Nat.le_of_ble_eq_true rfl) d_law_486 (fun H locs hSh => ?_)
  refine lv_icmp_eq (tgt := 1217) hx hb d_law_489 (by decide) (fun _ => ?_) (fun q => absurd rfl q)
  exact hN _ H locs ls hSh hl
/-- fault(I)I -/
theorem lw_c8 (hC : lw_Cx p s m args meth c D cT tb z b L xs cells slots) (hi : i + 6 ≤ L) (hN : lw_Nx p l e s m args below meth c Q D cT tb z b cells slots 1217 (i)) : lw_Nx p l e s m args below meth c Q D cT tb z b cells slots 494 (i) := by
  intro S H locs ls hSh hl
  have hx := hC.1.1
  have hb := hC.1.2.1
  refine lv_aload_n hx hb d_law_494 rfl (lv_at hl 1 rfl) ?_
  refine lw_arg hC hi hl hSh (j := 1) (by decide) da_495 ?_
  refine lw_first hC am_mkr_10_49 (Nat.le_of_ble_eq_true rfl) [xs (i + 1)] rfl (fun _ => rfl) (fun hp h => pc_T_fault S hp h (xs (i + 1))) hSh hl (Nat.le_of_ble_eq_true rfl) d_law_500 (fun H locs hSh => ?_)
  refine lv_aload_n hx hb d_law_503 rfl (lv_at hl 2 rfl) ?_
  refine lw_arg hC hi hl hSh (j := 1) (by decide) da_504 ?_
  refine lw_second hC am_mkr_10_52 (Nat.le_of_ble_eq_true rfl) [xs (i + 1)] rfl (fun _ => rfl) (fun hp h => pm_M_fault S hp h (xs (i + 1))) hSh hl (Nat.le_of_ble_eq_true rfl) d_law_509 (fun H locs hSh => ?_)
  refine lv_icmp_eq (tgt := 1217) hx hb d_law_512 (by decide) (fun _ => ?_) (fun q => absurd rfl q)
  exact hN _ H locs ls hSh hl
/-- things(I)I -/
theorem lw_c9 (hC : lw_Cx p s m args meth c D cT tb z b L xs cells slots) (hi : i + 6 ≤ L) (hN : lw_Nx p l e s m args below meth c Q D cT tb z b cells slots 1217 (i)) : lw_Nx p l e s m args below meth c Q D cT tb z b cells slots 517 (i) := by
  intro S H locs ls hSh hl
  have hx := hC.1.1
  have hb := hC.1.2.1
  refine lv_aload_n hx hb d_law_517 rfl (lv_at hl 1 rfl) ?_
  refine lw_arg hC hi hl hSh (j := 1) (by decide) da_518 ?_
  refine lw_first hC am_mkr_10_53 (Nat.le_of_ble_eq_true rfl) [xs (i + 1)] rfl (fun _ => rfl) (fun hp h => pc_T_things S hp h (xs (i + 1))) hSh hl (Nat.le_of_ble_eq_true rfl) d_law_523 (fun H locs hSh => ?_)
  refine lv_aload_n hx hb d_law_526 rfl (lv_at hl 2 rfl) ?_
  refine lw_arg hC hi hl hSh (j := 1) (by decide) da_527 ?_
  refine lw_second hC am_mkr_10_56 (Nat.le_of_ble_eq_true rfl) [xs (i + 1)] rfl (fun _ => rfl) (fun hp h => pm_M_things S hp h (xs (i + 1))) hSh hl (Nat.le_of_ble_eq_true rfl) d_law_532 (fun H locs hSh => ?_)
  refine lv_icmp_eq (tgt := 1217) hx hb d_law_535 (by decide) (fun _ => ?_) (fun q => absurd rfl q)
  exact hN _ H locs ls hSh hl
/-- thing(II)I -/
theorem lw_c10 (hC : lw_Cx p s m args meth c D cT tb z b L xs cells slots) (hi : i + 6 ≤ L) (hN : lw_Nx p l e s m args below meth c Q D cT tb z b cells slots 1217 (i)) : lw_Nx p l e s m args below meth c Q D cT tb z b cells slots 540 (i) := by
  intro S H locs ls hSh hl
  have hx := hC.1.1
  have hb := hC.1.2.1
  refine lv_aload_n hx hb d_law_540 rfl (lv_at hl 1 rfl) ?_
  refine lw_arg hC hi hl hSh (j := 1) (by decide) da_541 ?_
  refine lw_arg hC hi hl hSh (j := 2) (by decide) da_546 ?_
  refine lw_first hC am_mkr_10_57 (Nat.le_of_ble_eq_true rfl) [xs (i + 1), xs (i + 2)] rfl (fun _ => rfl) (fun hp h => pc_T_thing S hp h (xs (i + 1)) (xs (i + 2))) hSh hl (Nat.le_of_ble_eq_true rfl) d_law_551 (fun H locs hSh => ?_)
  refine lv_aload_n hx hb d_law_554 rfl (lv_at hl 2 rfl) ?_
  refine lw_arg hC hi hl hSh (j := 1) (by decide) da_555 ?_
  refine lw_arg hC hi hl hSh (j := 2) (by decide) da_560 ?_
  refine lw_second hC am_mkr_10_60 (Nat.le_of_ble_eq_true rfl) [xs (i + 1), xs (i + 2)] rfl (fun _ => rfl) (fun hp h => pm_M_thing S hp h (xs (i + 1)) (xs (i + 2))) hSh hl (Nat.le_of_ble_eq_true rfl) d_law_565 (fun H locs hSh => ?_)
  refine lv_icmp_eq (tgt := 1217) hx hb d_law_568 (by decide) (fun _ => ?_) (fun q => absurd rfl q)
  exact hN _ H locs ls hSh hl
/-- mark(II)I -/
theorem lw_c11 (hC : lw_Cx p s m args meth c D cT tb z b L xs cells slots) (hi : i + 6 ≤ L) (hN : lw_Nx p l e s m args below meth c Q D cT tb z b cells slots 1217 (i)) : lw_Nx p l e s m args below meth c Q D cT tb z b cells slots 573 (i) := by
  intro S H locs ls hSh hl
  have hx := hC.1.1
  have hb := hC.1.2.1
  refine lv_aload_n hx hb d_law_573 rfl (lv_at hl 1 rfl) ?_
  refine lw_arg hC hi hl hSh (j := 1) (by decide) da_574 ?_
  refine lw_arg hC hi hl hSh (j := 2) (by decide) da_579 ?_
  refine lw_first hC am_mkr_10_61 (Nat.le_of_ble_eq_true rfl) [xs (i + 1), xs (i + 2)] rfl (fun _ => rfl) (fun hp h => pc_T_mark S hp h (xs (i + 1)) (xs (i + 2))) hSh hl (Nat.le_of_ble_eq_true rfl) d_law_584 (fun H locs hSh => ?_)
  refine lv_aload_n hx hb d_law_587 rfl (lv_at hl 2 rfl) ?_
  refine lw_arg hC hi hl hSh (j := 1) (by decide) da_588 ?_
  refine lw_arg hC hi hl hSh (j := 2) (by decide) da_593 ?_
  refine lw_second hC am_mkr_10_64 (Nat.le_of_ble_eq_true rfl) [xs (i + 1), xs (i + 2)] rfl (fun _ => rfl) (fun hp h => pm_M_mark S hp h (xs (i + 1)) (xs (i + 2))) hSh hl (Nat.le_of_ble_eq_true rfl) d_law_598 (fun H locs hSh => ?_)
  refine lv_icmp_eq (tgt := 1217) hx hb d_law_601 (by decide) (fun _ => ?_) (fun q => absurd rfl q)
  exact hN _ H locs ls hSh hl
/-- toss(I)I -/
theorem lw_c12 (hC : lw_Cx p s m args meth c D cT tb z b L xs cells slots) (hi : i + 6 ≤ L) (hN : lw_Nx p l e s m args below meth c Q D cT tb z b cells slots 1217 (i)) : lw_Nx p l e s m args below meth c Q D cT tb z b cells slots 606 (i) := by
  intro S H locs ls hSh hl
  have hx := hC.1.1
  have hb := hC.1.2.1
  refine lv_aload_n hx hb d_law_606 rfl (lv_at hl 1 rfl) ?_
  refine lw_arg hC hi hl hSh (j := 1) (by decide) da_607 ?_
  refine lw_first hC am_mkr_10_65 (Nat.le_of_ble_eq_true rfl) [xs (i + 1)] rfl (fun _ => rfl) (fun hp h => pc_T_toss S hp h (xs (i + 1))) hSh hl (Nat.le_of_ble_eq_true rfl) d_law_612 (fun H locs hSh => ?_)
  refine lv_aload_n hx hb d_law_615 rfl (lv_at hl 2 rfl) ?_
  refine lw_arg hC hi hl hSh (j := 1) (by decide) da_616 ?_
  refine lw_second hC am_mkr_10_68 (Nat.le_of_ble_eq_true rfl) [xs (i + 1)] rfl (fun _ => rfl) (fun hp h => pm_M_toss S hp h (xs (i + 1))) hSh hl (Nat.le_of_ble_eq_true rfl) d_law_621 (fun H locs hSh => ?_)
  refine lv_icmp_eq (tgt := 1217) hx hb d_law_624 (by decide) (fun _ => ?_) (fun q => absurd rfl q)
  exact hN _ H locs ls hSh hl
/-- rest()I -/
theorem lw_c13 (hC : lw_Cx p s m args meth c D cT tb z b L xs cells slots) (hi : i + 6 ≤ L) (hN : lw_Nx p l e s m args below meth c Q D cT tb z b cells slots 1217 (i)) : lw_Nx p l e s m args below meth c Q D cT tb z b cells slots 629 (i) := by
  intro S H locs ls hSh hl
  have hx := hC.1.1
  have hb := hC.1.2.1
  refine lv_aload_n hx hb d_law_629 rfl (lv_at hl 1 rfl) ?_
  refine lw_first hC am_mkr_10_69 (Nat.le_of_ble_eq_true rfl) [] rfl (fun _ => rfl) (fun hp h => pc_T_rest S hp h ) hSh hl (Nat.le_of_ble_eq_true rfl) d_law_630 (fun H locs hSh => ?_)
  refine lv_aload_n hx hb d_law_633 rfl (lv_at hl 2 rfl) ?_
  refine lw_second hC am_mkr_10_73 (Nat.le_of_ble_eq_true rfl) [] rfl (fun _ => rfl) (fun hp h => pm_M_rest S hp h ) hSh hl (Nat.le_of_ble_eq_true rfl) d_law_634 (fun H locs hSh => ?_)
  refine lv_icmp_eq (tgt := 1217) hx hb d_law_637 (by decide) (fun _ => ?_) (fun q => absurd rfl q)
  exact hN _ H locs ls hSh hl
/-- exchange(II)I -/
theorem lw_c14 (hC : lw_Cx p s m args meth c D cT tb z b L xs cells slots) (hi : i + 6 ≤ L) (hN : lw_Nx p l e s m args below meth c Q D cT tb z b cells slots 1217 (i)) : lw_Nx p l e s m args below meth c Q D cT tb z b cells slots 642 (i) := by
  intro S H locs ls hSh hl
  have hx := hC.1.1
  have hb := hC.1.2.1
  refine lv_aload_n hx hb d_law_642 rfl (lv_at hl 1 rfl) ?_
  refine lw_arg hC hi hl hSh (j := 1) (by decide) da_643 ?_
  refine lw_arg hC hi hl hSh (j := 2) (by decide) da_648 ?_
  refine lw_first hC am_mkr_10_74 (Nat.le_of_ble_eq_true rfl) [xs (i + 1), xs (i + 2)] rfl (fun _ => rfl) (fun hp h => pc_T_exchange S hp h (xs (i + 1)) (xs (i + 2))) hSh hl (Nat.le_of_ble_eq_true rfl) d_law_653 (fun H locs hSh => ?_)
  refine lv_aload_n hx hb d_law_656 rfl (lv_at hl 2 rfl) ?_
  refine lw_arg hC hi hl hSh (j := 1) (by decide) da_657 ?_
  refine lw_arg hC hi hl hSh (j := 2) (by decide) da_662 ?_
  refine lw_second hC am_mkr_10_77 (Nat.le_of_ble_eq_true rfl) [xs (i + 1), xs (i + 2)] rfl (fun _ => rfl) (fun hp h => pm_M_exchange S hp h (xs (i + 1)) (xs (i + 2))) hSh hl (Nat.le_of_ble_eq_true rfl) d_law_667 (fun H locs hSh => ?_)
  refine lv_icmp_eq (tgt := 1217) hx hb d_law_670 (by decide) (fun _ => ?_) (fun q => absurd rfl q)
  exact hN _ H locs ls hSh hl
/-- undo(I)I -/
theorem lw_c15 (hC : lw_Cx p s m args meth c D cT tb z b L xs cells slots) (hi : i + 6 ≤ L) (hN : lw_Nx p l e s m args below meth c Q D cT tb z b cells slots 1217 (i)) : lw_Nx p l e s m args below meth c Q D cT tb z b cells slots 675 (i) := by
  intro S H locs ls hSh hl
  have hx := hC.1.1
  have hb := hC.1.2.1
  refine lv_aload_n hx hb d_law_675 rfl (lv_at hl 1 rfl) ?_
  refine lw_arg hC hi hl hSh (j := 1) (by decide) da_676 ?_
  refine lw_first hC am_mkr_10_78 (Nat.le_of_ble_eq_true rfl) [xs (i + 1)] rfl (fun _ => rfl) (fun hp h => pc_T_undo S hp h (xs (i + 1))) hSh hl (Nat.le_of_ble_eq_true rfl) d_law_681 (fun H locs hSh => ?_)
  refine lv_aload_n hx hb d_law_684 rfl (lv_at hl 2 rfl) ?_
  refine lw_arg hC hi hl hSh (j := 1) (by decide) da_685 ?_
  refine lw_second hC am_mkr_10_81 (Nat.le_of_ble_eq_true rfl) [xs (i + 1)] rfl (fun _ => rfl) (fun hp h => pm_M_undo S hp h (xs (i + 1))) hSh hl (Nat.le_of_ble_eq_true rfl) d_law_690 (fun H locs hSh => ?_)
  refine lv_icmp_eq (tgt := 1217) hx hb d_law_693 (by decide) (fun _ => ?_) (fun q => absurd rfl q)
  exact hN _ H locs ls hSh hl
/-- keep(I)I -/
theorem lw_c16 (hC : lw_Cx p s m args meth c D cT tb z b L xs cells slots) (hi : i + 6 ≤ L) (hN : lw_Nx p l e s m args below meth c Q D cT tb z b cells slots 1217 (i)) : lw_Nx p l e s m args below meth c Q D cT tb z b cells slots 698 (i) := by
  intro S H locs ls hSh hl
  have hx := hC.1.1
  have hb := hC.1.2.1
  refine lv_aload_n hx hb d_law_698 rfl (lv_at hl 1 rfl) ?_
  refine lw_arg hC hi hl hSh (j := 1) (by decide) da_699 ?_
  refine lw_first hC am_mkr_10_82 (Nat.le_of_ble_eq_true rfl) [xs (i + 1)] rfl (fun _ => rfl) (fun hp h => pc_T_keep S hp h (xs (i + 1))) hSh hl (Nat.le_of_ble_eq_true rfl) d_law_704 (fun H locs hSh => ?_)
  refine lv_aload_n hx hb d_law_707 rfl (lv_at hl 2 rfl) ?_
  refine lw_arg hC hi hl hSh (j := 1) (by decide) da_708 ?_
  refine lw_second hC am_mkr_10_85 (Nat.le_of_ble_eq_true rfl) [xs (i + 1)] rfl (fun _ => rfl) (fun hp h => pm_M_keep S hp h (xs (i + 1))) hSh hl (Nat.le_of_ble_eq_true rfl) d_law_713 (fun H locs hSh => ?_)
  refine lv_icmp_eq (tgt := 1217) hx hb d_law_716 (by decide) (fun _ => ?_) (fun q => absurd rfl q)
  exact hN _ H locs ls hSh hl
/-- on(I)I -/
theorem lw_c17 (hC : lw_Cx p s m args meth c D cT tb z b L xs cells slots) (hi : i + 6 ≤ L) (hN : lw_Nx p l e s m args below meth c Q D cT tb z b cells slots 1217 (i)) : lw_Nx p l e s m args below meth c Q D cT tb z b cells slots 721 (i) := by
  intro S H locs ls hSh hl
  have hx := hC.1.1
  have hb := hC.1.2.1
  refine lv_aload_n hx hb d_law_721 rfl (lv_at hl 1 rfl) ?_
  refine lw_arg hC hi hl hSh (j := 1) (by decide) da_722 ?_
  refine lw_first hC am_mkr_10_86 (Nat.le_of_ble_eq_true rfl) [xs (i + 1)] rfl (fun _ => rfl) (fun hp h => pc_T_on S hp h (xs (i + 1))) hSh hl (Nat.le_of_ble_eq_true rfl) d_law_727 (fun H locs hSh => ?_)
  refine lv_aload_n hx hb d_law_730 rfl (lv_at hl 2 rfl) ?_
  refine lw_arg hC hi hl hSh (j := 1) (by decide) da_731 ?_
  refine lw_second hC am_mkr_10_89 (Nat.le_of_ble_eq_true rfl) [xs (i + 1)] rfl (fun _ => rfl) (fun hp h => pm_M_on S hp h (xs (i + 1))) hSh hl (Nat.le_of_ble_eq_true rfl) d_law_736 (fun H locs hSh => ?_)
  refine lv_icmp_eq (tgt := 1217) hx hb d_law_739 (by decide) (fun _ => ?_) (fun q => absurd rfl q)
  exact hN _ H locs ls hSh hl
/-- lands(II)I -/
theorem lw_c18 (hC : lw_Cx p s m args meth c D cT tb z b L xs cells slots) (hi : i + 6 ≤ L) (hN : lw_Nx p l e s m args below meth c Q D cT tb z b cells slots 1217 (i)) : lw_Nx p l e s m args below meth c Q D cT tb z b cells slots 744 (i) := by
  intro S H locs ls hSh hl
  have hx := hC.1.1
  have hb := hC.1.2.1
  refine lv_aload_n hx hb d_law_744 rfl (lv_at hl 1 rfl) ?_
  refine lw_arg hC hi hl hSh (j := 1) (by decide) da_745 ?_
  refine lw_arg hC hi hl hSh (j := 2) (by decide) da_750 ?_
  refine lw_first hC am_mkr_10_90 (Nat.le_of_ble_eq_true rfl) [xs (i + 1), xs (i + 2)] rfl (fun _ => rfl) (fun hp h => pc_T_lands S hp h (xs (i + 1)) (xs (i + 2))) hSh hl (Nat.le_of_ble_eq_true rfl) d_law_755 (fun H locs hSh => ?_)
  refine lv_aload_n hx hb d_law_758 rfl (lv_at hl 2 rfl) ?_
  refine lw_arg hC hi hl hSh (j := 1) (by decide) da_759 ?_
  refine lw_arg hC hi hl hSh (j := 2) (by decide) da_764 ?_
  refine lw_second hC am_mkr_10_93 (Nat.le_of_ble_eq_true rfl) [xs (i + 1), xs (i + 2)] rfl (fun _ => rfl) (fun hp h => pm_M_lands S hp h (xs (i + 1)) (xs (i + 2))) hSh hl (Nat.le_of_ble_eq_true rfl) d_law_769 (fun H locs hSh => ?_)
  refine lv_icmp_eq (tgt := 1217) hx hb d_law_772 (by decide) (fun _ => ?_) (fun q => absurd rfl q)
  exact hN _ H locs ls hSh hl
/-- may()I -/
theorem lw_c19 (hC : lw_Cx p s m args meth c D cT tb z b L xs cells slots) (hi : i + 6 ≤ L) (hN : lw_Nx p l e s m args below meth c Q D cT tb z b cells slots 1217 (i)) : lw_Nx p l e s m args below meth c Q D cT tb z b cells slots 777 (i) := by
  intro S H locs ls hSh hl
  have hx := hC.1.1
  have hb := hC.1.2.1
  refine lv_aload_n hx hb d_law_777 rfl (lv_at hl 1 rfl) ?_
  refine lw_first hC am_mkr_10_94 (Nat.le_of_ble_eq_true rfl) [] rfl (fun _ => rfl) (fun hp h => pc_T_may S hp h ) hSh hl (Nat.le_of_ble_eq_true rfl) d_law_778 (fun H locs hSh => ?_)
  refine lv_aload_n hx hb d_law_781 rfl (lv_at hl 2 rfl) ?_
  refine lw_second hC am_mkr_10_97 (Nat.le_of_ble_eq_true rfl) [] rfl (fun _ => rfl) (fun hp h => pm_M_may S hp h ) hSh hl (Nat.le_of_ble_eq_true rfl) d_law_782 (fun H locs hSh => ?_)
  refine lv_icmp_eq (tgt := 1217) hx hb d_law_785 (by decide) (fun _ => ?_) (fun q => absurd rfl q)
  exact hN _ H locs ls hSh hl
/-- run(I)I -/
theorem lw_c20 (hC : lw_Cx p s m args meth c D cT tb z b L xs cells slots) (hi : i + 6 ≤ L) (hN : lw_Nx p l e s m args below meth c Q D cT tb z b cells slots 1217 (i)) : lw_Nx p l e s m args below meth c Q D cT tb z b cells slots 790 (i) := by
  intro S H locs ls hSh hl
  have hx := hC.1.1
  have hb := hC.1.2.1
  refine lv_aload_n hx hb d_law_790 rfl (lv_at hl 1 rfl) ?_
  refine lw_arg hC hi hl hSh (j := 1) (by decide) da_791 ?_
  refine lw_first hC am_mkr_10_98 (Nat.le_of_ble_eq_true rfl) [xs (i + 1)] rfl (fun _ => rfl) (fun hp h => pc_T_run S hp h (xs (i + 1))) hSh hl (Nat.le_of_ble_eq_true rfl) d_law_796 (fun H locs hSh => ?_)
  refine lv_aload_n hx hb d_law_799 rfl (lv_at hl 2 rfl) ?_
  refine lw_arg hC hi hl hSh (j := 1) (by decide) da_800 ?_
  refine lw_second hC am_mkr_10_101 (Nat.le_of_ble_eq_true rfl) [xs (i + 1)] rfl (fun _ => rfl) (fun hp h => pm_M_run S hp h (xs (i + 1))) hSh hl (Nat.le_of_ble_eq_true rfl) d_law_805 (fun H locs hSh => ?_)
  refine lv_icmp_eq (tgt := 1217) hx hb d_law_808 (by decide) (fun _ => ?_) (fun q => absurd rfl q)
  exact hN _ H locs ls hSh hl
/-- rounds(I)I -/
theorem lw_c21 (hC : lw_Cx p s m args meth c D cT tb z b L xs cells slots) (hi : i + 6 ≤ L) (hN : lw_Nx p l e s m args below meth c Q D cT tb z b cells slots 1217 (i)) : lw_Nx p l e s m args below meth c Q D cT tb z b cells slots 813 (i) := by
  intro S H locs ls hSh hl
  have hx := hC.1.1
  have hb := hC.1.2.1
  refine lv_aload_n hx hb d_law_813 rfl (lv_at hl 1 rfl) ?_
  refine lw_arg hC hi hl hSh (j := 1) (by decide) da_814 ?_
  refine lw_first hC am_mkr_10_102 (Nat.le_of_ble_eq_true rfl) [xs (i + 1)] rfl (fun _ => rfl) (fun hp h => pc_T_rounds S hp h (xs (i + 1))) hSh hl (Nat.le_of_ble_eq_true rfl) d_law_819 (fun H locs hSh => ?_)
  refine lv_aload_n hx hb d_law_822 rfl (lv_at hl 2 rfl) ?_
  refine lw_arg hC hi hl hSh (j := 1) (by decide) da_823 ?_
  refine lw_second hC am_mkr_10_105 (Nat.le_of_ble_eq_true rfl) [xs (i + 1)] rfl (fun _ => rfl) (fun hp h => pm_M_rounds S hp h (xs (i + 1))) hSh hl (Nat.le_of_ble_eq_true rfl) d_law_828 (fun H locs hSh => ?_)
  refine lv_icmp_eq (tgt := 1217) hx hb d_law_831 (by decide) (fun _ => ?_) (fun q => absurd rfl q)
  exact hN _ H locs ls hSh hl
/-- fewest(II)I -/
theorem lw_c22 (hC : lw_Cx p s m args meth c D cT tb z b L xs cells slots) (hi : i + 6 ≤ L) (hN : lw_Nx p l e s m args below meth c Q D cT tb z b cells slots 1217 (i)) : lw_Nx p l e s m args below meth c Q D cT tb z b cells slots 836 (i) := by
  intro S H locs ls hSh hl
  have hx := hC.1.1
  have hb := hC.1.2.1
  refine lv_aload_n hx hb d_law_836 rfl (lv_at hl 1 rfl) ?_
  refine lw_arg hC hi hl hSh (j := 1) (by decide) da_837 ?_
  refine lw_arg hC hi hl hSh (j := 2) (by decide) da_842 ?_
  refine lw_first hC am_mkr_10_106 (Nat.le_of_ble_eq_true rfl) [xs (i + 1), xs (i + 2)] rfl (fun _ => rfl) (fun hp h => pc_T_fewest S hp h (xs (i + 1)) (xs (i + 2))) hSh hl (Nat.le_of_ble_eq_true rfl) d_law_847 (fun H locs hSh => ?_)
  refine lv_aload_n hx hb d_law_850 rfl (lv_at hl 2 rfl) ?_
  refine lw_arg hC hi hl hSh (j := 1) (by decide) da_851 ?_
  refine lw_arg hC hi hl hSh (j := 2) (by decide) da_856 ?_
  refine lw_second hC am_mkr_10_109 (Nat.le_of_ble_eq_true rfl) [xs (i + 1), xs (i + 2)] rfl (fun _ => rfl) (fun hp h => pm_M_fewest S hp h (xs (i + 1)) (xs (i + 2))) hSh hl (Nat.le_of_ble_eq_true rfl) d_law_861 (fun H locs hSh => ?_)
  refine lv_icmp_eq (tgt := 1217) hx hb d_law_864 (by decide) (fun _ => ?_) (fun q => absurd rfl q)
  exact hN _ H locs ls hSh hl
/-- ways(I)I -/
theorem lw_c23 (hC : lw_Cx p s m args meth c D cT tb z b L xs cells slots) (hi : i + 6 ≤ L) (hN : lw_Nx p l e s m args below meth c Q D cT tb z b cells slots 1217 (i)) : lw_Nx p l e s m args below meth c Q D cT tb z b cells slots 869 (i) := by
  intro S H locs ls hSh hl
  have hx := hC.1.1
  have hb := hC.1.2.1
  refine lv_aload_n hx hb d_law_869 rfl (lv_at hl 1 rfl) ?_
  refine lw_arg hC hi hl hSh (j := 1) (by decide) da_870 ?_
  refine lw_first hC am_mkr_10_110 (Nat.le_of_ble_eq_true rfl) [xs (i + 1)] rfl (fun _ => rfl) (fun hp h => pc_T_ways S hp h (xs (i + 1))) hSh hl (Nat.le_of_ble_eq_true rfl) d_law_875 (fun H locs hSh => ?_)
  refine lv_aload_n hx hb d_law_878 rfl (lv_at hl 2 rfl) ?_
  refine lw_arg hC hi hl hSh (j := 1) (by decide) da_879 ?_
  refine lw_second hC am_mkr_10_113 (Nat.le_of_ble_eq_true rfl) [xs (i + 1)] rfl (fun _ => rfl) (fun hp h => pm_M_ways S hp h (xs (i + 1))) hSh hl (Nat.le_of_ble_eq_true rfl) d_law_884 (fun H locs hSh => ?_)
  refine lv_icmp_eq (tgt := 1217) hx hb d_law_887 (by decide) (fun _ => ?_) (fun q => absurd rfl q)
  exact hN _ H locs ls hSh hl
/-- height(I)I -/
theorem lw_c24 (hC : lw_Cx p s m args meth c D cT tb z b L xs cells slots) (hi : i + 6 ≤ L) (hN : lw_Nx p l e s m args below meth c Q D cT tb z b cells slots 1217 (i)) : lw_Nx p l e s m args below meth c Q D cT tb z b cells slots 892 (i) := by
  intro S H locs ls hSh hl
  have hx := hC.1.1
  have hb := hC.1.2.1
  refine lv_aload_n hx hb d_law_892 rfl (lv_at hl 1 rfl) ?_
  refine lw_arg hC hi hl hSh (j := 1) (by decide) da_893 ?_
  refine lw_first hC am_mkr_10_114 (Nat.le_of_ble_eq_true rfl) [xs (i + 1)] rfl (fun _ => rfl) (fun hp h => pc_T_height S hp h (xs (i + 1))) hSh hl (Nat.le_of_ble_eq_true rfl) d_law_898 (fun H locs hSh => ?_)
  refine lv_aload_n hx hb d_law_901 rfl (lv_at hl 2 rfl) ?_
  refine lw_arg hC hi hl hSh (j := 1) (by decide) da_902 ?_
  refine lw_second hC am_mkr_10_117 (Nat.le_of_ble_eq_true rfl) [xs (i + 1)] rfl (fun _ => rfl) (fun hp h => pm_M_height S hp h (xs (i + 1))) hSh hl (Nat.le_of_ble_eq_true rfl) d_law_907 (fun H locs hSh => ?_)
  refine lv_icmp_eq (tgt := 1217) hx hb d_law_910 (by decide) (fun _ => ?_) (fun q => absurd rfl q)
  exact hN _ H locs ls hSh hl
/-- kinds(II)I -/
theorem lw_c25 (hC : lw_Cx p s m args meth c D cT tb z b L xs cells slots) (hi : i + 6 ≤ L) (hN : lw_Nx p l e s m args below meth c Q D cT tb z b cells slots 1217 (i)) : lw_Nx p l e s m args below meth c Q D cT tb z b cells slots 915 (i) := by
  intro S H locs ls hSh hl
  have hx := hC.1.1
  have hb := hC.1.2.1
  refine lv_aload_n hx hb d_law_915 rfl (lv_at hl 1 rfl) ?_
  refine lw_arg hC hi hl hSh (j := 1) (by decide) da_916 ?_
  refine lw_arg hC hi hl hSh (j := 2) (by decide) da_921 ?_
  refine lw_first hC am_mkr_10_118 (Nat.le_of_ble_eq_true rfl) [xs (i + 1), xs (i + 2)] rfl (fun _ => rfl) (fun hp h => pc_T_kinds S hp h (xs (i + 1)) (xs (i + 2))) hSh hl (Nat.le_of_ble_eq_true rfl) d_law_926 (fun H locs hSh => ?_)
  refine lv_aload_n hx hb d_law_929 rfl (lv_at hl 2 rfl) ?_
  refine lw_arg hC hi hl hSh (j := 1) (by decide) da_930 ?_
  refine lw_arg hC hi hl hSh (j := 2) (by decide) da_935 ?_
  refine lw_second hC am_mkr_10_121 (Nat.le_of_ble_eq_true rfl) [xs (i + 1), xs (i + 2)] rfl (fun _ => rfl) (fun hp h => pm_M_kinds S hp h (xs (i + 1)) (xs (i + 2))) hSh hl (Nat.le_of_ble_eq_true rfl) d_law_940 (fun H locs hSh => ?_)
  refine lv_icmp_eq (tgt := 1217) hx hb d_law_943 (by decide) (fun _ => ?_) (fun q => absurd rfl q)
  exact hN _ H locs ls hSh hl
/-- next(II)I -/
theorem lw_c26 (hC : lw_Cx p s m args meth c D cT tb z b L xs cells slots) (hi : i + 6 ≤ L) (hN : lw_Nx p l e s m args below meth c Q D cT tb z b cells slots 1217 (i)) : lw_Nx p l e s m args below meth c Q D cT tb z b cells slots 948 (i) := by
  intro S H locs ls hSh hl
  have hx := hC.1.1
  have hb := hC.1.2.1
  refine lv_aload_n hx hb d_law_948 rfl (lv_at hl 1 rfl) ?_
  refine lw_arg hC hi hl hSh (j := 1) (by decide) da_949 ?_
  refine lw_arg hC hi hl hSh (j := 2) (by decide) da_954 ?_
  refine lw_first hC am_mkr_10_122 (Nat.le_of_ble_eq_true rfl) [xs (i + 1), xs (i + 2)] rfl (fun _ => rfl) (fun hp h => pc_T_next S hp h (xs (i + 1)) (xs (i + 2))) hSh hl (Nat.le_of_ble_eq_true rfl) d_law_959 (fun H locs hSh => ?_)
  refine lv_aload_n hx hb d_law_962 rfl (lv_at hl 2 rfl) ?_
  refine lw_arg hC hi hl hSh (j := 1) (by decide) da_963 ?_
  refine lw_arg hC hi hl hSh (j := 2) (by decide) da_968 ?_
  refine lw_second hC am_mkr_10_125 (Nat.le_of_ble_eq_true rfl) [xs (i + 1), xs (i + 2)] rfl (fun _ => rfl) (fun hp h => pm_M_next S hp h (xs (i + 1)) (xs (i + 2))) hSh hl (Nat.le_of_ble_eq_true rfl) d_law_973 (fun H locs hSh => ?_)
  refine lv_icmp_eq (tgt := 1217) hx hb d_law_976 (by decide) (fun _ => ?_) (fun q => absurd rfl q)
  exact hN _ H locs ls hSh hl
/-- duel(I)I -/
theorem lw_c27 (hC : lw_Cx p s m args meth c D cT tb z b L xs cells slots) (hi : i + 6 ≤ L) (hN : lw_Nx p l e s m args below meth c Q D cT tb z b cells slots 1217 (i)) : lw_Nx p l e s m args below meth c Q D cT tb z b cells slots 981 (i) := by
  intro S H locs ls hSh hl
  have hx := hC.1.1
  have hb := hC.1.2.1
  refine lv_aload_n hx hb d_law_981 rfl (lv_at hl 1 rfl) ?_
  refine lw_arg hC hi hl hSh (j := 1) (by decide) da_982 ?_
  refine lw_first hC am_mkr_10_126 (Nat.le_of_ble_eq_true rfl) [xs (i + 1)] rfl (fun _ => rfl) (fun hp h => pc_T_duel S hp h (xs (i + 1))) hSh hl (Nat.le_of_ble_eq_true rfl) d_law_987 (fun H locs hSh => ?_)
  refine lv_aload_n hx hb d_law_990 rfl (lv_at hl 2 rfl) ?_
  refine lw_arg hC hi hl hSh (j := 1) (by decide) da_991 ?_
  refine lw_second hC am_mkr_10_129 (Nat.le_of_ble_eq_true rfl) [xs (i + 1)] rfl (fun _ => rfl) (fun hp h => pm_M_duel S hp h (xs (i + 1))) hSh hl (Nat.le_of_ble_eq_true rfl) d_law_996 (fun H locs hSh => ?_)
  refine lv_icmp_eq (tgt := 1217) hx hb d_law_999 (by decide) (fun _ => ?_) (fun q => absurd rfl q)
  exact hN _ H locs ls hSh hl
/-- odds(II)I -/
theorem lw_c28 (hC : lw_Cx p s m args meth c D cT tb z b L xs cells slots) (hi : i + 6 ≤ L) (hN : lw_Nx p l e s m args below meth c Q D cT tb z b cells slots 1217 (i)) : lw_Nx p l e s m args below meth c Q D cT tb z b cells slots 1004 (i) := by
  intro S H locs ls hSh hl
  have hx := hC.1.1
  have hb := hC.1.2.1
  refine lv_aload_n hx hb d_law_1004 rfl (lv_at hl 1 rfl) ?_
  refine lw_arg hC hi hl hSh (j := 1) (by decide) da_1005 ?_
  refine lw_arg hC hi hl hSh (j := 2) (by decide) da_1010 ?_
  refine lw_first hC am_mkr_10_130 (Nat.le_of_ble_eq_true rfl) [xs (i + 1), xs (i + 2)] rfl (fun _ => rfl) (fun hp h => pc_T_odds S hp h (xs (i + 1)) (xs (i + 2))) hSh hl (Nat.le_of_ble_eq_true rfl) d_law_1015 (fun H locs hSh => ?_)
  refine lv_aload_n hx hb d_law_1018 rfl (lv_at hl 2 rfl) ?_
  refine lw_arg hC hi hl hSh (j := 1) (by decide) da_1019 ?_
  refine lw_arg hC hi hl hSh (j := 2) (by decide) da_1024 ?_
  refine lw_second hC am_mkr_10_133 (Nat.le_of_ble_eq_true rfl) [xs (i + 1), xs (i + 2)] rfl (fun _ => rfl) (fun hp h => pm_M_odds S hp h (xs (i + 1)) (xs (i + 2))) hSh hl (Nat.le_of_ble_eq_true rfl) d_law_1029 (fun H locs hSh => ?_)
  refine lv_icmp_eq (tgt := 1217) hx hb d_law_1032 (by decide) (fun _ => ?_) (fun q => absurd rfl q)
  exact hN _ H locs ls hSh hl
/-- mid(II)I -/
theorem lw_c29 (hC : lw_Cx p s m args meth c D cT tb z b L xs cells slots) (hi : i + 6 ≤ L) (hN : lw_Nx p l e s m args below meth c Q D cT tb z b cells slots 1217 (i)) : lw_Nx p l e s m args below meth c Q D cT tb z b cells slots 1037 (i) := by
  intro S H locs ls hSh hl
  have hx := hC.1.1
  have hb := hC.1.2.1
  refine lv_aload_n hx hb d_law_1037 rfl (lv_at hl 1 rfl) ?_
  refine lw_arg hC hi hl hSh (j := 1) (by decide) da_1038 ?_
  refine lw_arg hC hi hl hSh (j := 2) (by decide) da_1043 ?_
  refine lw_first hC am_mkr_10_134 (Nat.le_of_ble_eq_true rfl) [xs (i + 1), xs (i + 2)] rfl (fun _ => rfl) (fun hp h => pc_T_mid S hp h (xs (i + 1)) (xs (i + 2))) hSh hl (Nat.le_of_ble_eq_true rfl) d_law_1048 (fun H locs hSh => ?_)
  refine lv_aload_n hx hb d_law_1051 rfl (lv_at hl 2 rfl) ?_
  refine lw_arg hC hi hl hSh (j := 1) (by decide) da_1052 ?_
  refine lw_arg hC hi hl hSh (j := 2) (by decide) da_1057 ?_
  refine lw_second hC am_mkr_10_137 (Nat.le_of_ble_eq_true rfl) [xs (i + 1), xs (i + 2)] rfl (fun _ => rfl) (fun hp h => pm_M_mid S hp h (xs (i + 1)) (xs (i + 2))) hSh hl (Nat.le_of_ble_eq_true rfl) d_law_1062 (fun H locs hSh => ?_)
  refine lv_icmp_eq (tgt := 1217) hx hb d_law_1065 (by decide) (fun _ => ?_) (fun q => absurd rfl q)
  exact hN _ H locs ls hSh hl
/-- lots(II)I -/
theorem lw_c30 (hC : lw_Cx p s m args meth c D cT tb z b L xs cells slots) (hi : i + 6 ≤ L) (hN : lw_Nx p l e s m args below meth c Q D cT tb z b cells slots 1217 (i)) : lw_Nx p l e s m args below meth c Q D cT tb z b cells slots 1070 (i) := by
  intro S H locs ls hSh hl
  have hx := hC.1.1
  have hb := hC.1.2.1
  refine lv_aload_n hx hb d_law_1070 rfl (lv_at hl 1 rfl) ?_
  refine lw_arg hC hi hl hSh (j := 1) (by decide) da_1071 ?_
  refine lw_arg hC hi hl hSh (j := 2) (by decide) da_1076 ?_
  refine lw_first hC am_mkr_10_138 (Nat.le_of_ble_eq_true rfl) [xs (i + 1), xs (i + 2)] rfl (fun _ => rfl) (fun hp h => pc_T_lots S hp h (xs (i + 1)) (xs (i + 2))) hSh hl (Nat.le_of_ble_eq_true rfl) d_law_1081 (fun H locs hSh => ?_)
  refine lv_aload_n hx hb d_law_1084 rfl (lv_at hl 2 rfl) ?_
  refine lw_arg hC hi hl hSh (j := 1) (by decide) da_1085 ?_
  refine lw_arg hC hi hl hSh (j := 2) (by decide) da_1090 ?_
  refine lw_second hC am_mkr_10_141 (Nat.le_of_ble_eq_true rfl) [xs (i + 1), xs (i + 2)] rfl (fun _ => rfl) (fun hp h => pm_M_lots S hp h (xs (i + 1)) (xs (i + 2))) hSh hl (Nat.le_of_ble_eq_true rfl) d_law_1095 (fun H locs hSh => ?_)
  refine lv_icmp_eq (tgt := 1217) hx hb d_law_1098 (by decide) (fun _ => ?_) (fun q => absurd rfl q)
  exact hN _ H locs ls hSh hl
/-- asked()I -/
theorem lw_c31 (hC : lw_Cx p s m args meth c D cT tb z b L xs cells slots) (hi : i + 6 ≤ L) (hN : lw_Nx p l e s m args below meth c Q D cT tb z b cells slots 1217 (i)) : lw_Nx p l e s m args below meth c Q D cT tb z b cells slots 1103 (i) := by
  intro S H locs ls hSh hl
  have hx := hC.1.1
  have hb := hC.1.2.1
  refine lv_aload_n hx hb d_law_1103 rfl (lv_at hl 1 rfl) ?_
  refine lw_first hC am_mkr_10_142 (Nat.le_of_ble_eq_true rfl) [] rfl (fun _ => rfl) (fun hp h => pc_T_asked S hp h ) hSh hl (Nat.le_of_ble_eq_true rfl) d_law_1104 (fun H locs hSh => ?_)
  refine lv_aload_n hx hb d_law_1107 rfl (lv_at hl 2 rfl) ?_
  refine lw_second hC am_mkr_10_145 (Nat.le_of_ble_eq_true rfl) [] rfl (fun _ => rfl) (fun hp h => pm_M_asked S hp h ) hSh hl (Nat.le_of_ble_eq_true rfl) d_law_1108 (fun H locs hSh => ?_)
  refine lv_icmp_eq (tgt := 1217) hx hb d_law_1111 (by decide) (fun _ => ?_) (fun q => absurd rfl q)
  exact hN _ H locs ls hSh hl
/-- upper()J -/
theorem lw_c32 (hC : lw_Cx p s m args meth c D cT tb z b L xs cells slots) (hi : i + 6 ≤ L) (hN : lw_Nx p l e s m args below meth c Q D cT tb z b cells slots 1217 (i)) : lw_Nx p l e s m args below meth c Q D cT tb z b cells slots 1116 (i) := by
  intro S H locs ls hSh hl
  have hx := hC.1.1
  have hb := hC.1.2.1
  refine lv_aload_n hx hb d_law_1116 rfl (lv_at hl 1 rfl) ?_
  refine lw_first hC am_mkr_10_146 (Nat.le_of_ble_eq_true rfl) [] rfl (fun _ => rfl) (fun hp h => pc_T_upper S hp h ) hSh hl (Nat.le_of_ble_eq_true rfl) d_law_1117 (fun H locs hSh => ?_)
  refine lv_aload_n hx hb d_law_1120 rfl (lv_at hl 2 rfl) ?_
  refine lw_second hC am_mkr_10_150 (Nat.le_of_ble_eq_true rfl) [] rfl (fun _ => rfl) (fun hp h => pm_M_upper S hp h ) hSh hl (Nat.le_of_ble_eq_true rfl) d_law_1121 (fun H locs hSh => ?_)
  refine W.lcmp hx hb d_law_1124 ?_
  refine lv_if_eq (tgt := 1217) hx hb d_law_1125 (by decide) (fun _ => ?_) (fun q => absurd (lw_cmp0 _) q)
  exact hN _ H locs ls hSh hl
/-- lower()J -/
theorem lw_c33 (hC : lw_Cx p s m args meth c D cT tb z b L xs cells slots) (hi : i + 6 ≤ L) (hN : lw_Nx p l e s m args below meth c Q D cT tb z b cells slots 1217 (i)) : lw_Nx p l e s m args below meth c Q D cT tb z b cells slots 1130 (i) := by
  intro S H locs ls hSh hl
  have hx := hC.1.1
  have hb := hC.1.2.1
  refine lv_aload_n hx hb d_law_1130 rfl (lv_at hl 1 rfl) ?_
  refine lw_first hC am_mkr_10_151 (Nat.le_of_ble_eq_true rfl) [] rfl (fun _ => rfl) (fun hp h => pc_T_lower S hp h ) hSh hl (Nat.le_of_ble_eq_true rfl) d_law_1131 (fun H locs hSh => ?_)
  refine lv_aload_n hx hb d_law_1134 rfl (lv_at hl 2 rfl) ?_
  refine lw_second hC am_mkr_10_154 (Nat.le_of_ble_eq_true rfl) [] rfl (fun _ => rfl) (fun hp h => pm_M_lower S hp h ) hSh hl (Nat.le_of_ble_eq_true rfl) d_law_1135 (fun H locs hSh => ?_)
  refine W.lcmp hx hb d_law_1138 ?_
  refine lv_if_eq (tgt := 1217) hx hb d_law_1139 (by decide) (fun _ => ?_) (fun q => absurd (lw_cmp0 _) q)
  exact hN _ H locs ls hSh hl
/-- count(I)I -/
theorem lw_c34 (hC : lw_Cx p s m args meth c D cT tb z b L xs cells slots) (hi : i + 6 ≤ L) (hN : lw_Nx p l e s m args below meth c Q D cT tb z b cells slots 1217 (i)) : lw_Nx p l e s m args below meth c Q D cT tb z b cells slots 1144 (i) := by
  intro S H locs ls hSh hl
  have hx := hC.1.1
  have hb := hC.1.2.1
  refine lv_aload_n hx hb d_law_1144 rfl (lv_at hl 1 rfl) ?_
  refine lw_arg hC hi hl hSh (j := 1) (by decide) da_1145 ?_
  refine lw_first hC am_mkr_10_155 (Nat.le_of_ble_eq_true rfl) [xs (i + 1)] rfl (fun _ => rfl) (fun hp h => pc_T_count S hp h (xs (i + 1))) hSh hl (Nat.le_of_ble_eq_true rfl) d_law_1150 (fun H locs hSh => ?_)
  refine lv_aload_n hx hb d_law_1153 rfl (lv_at hl 2 rfl) ?_
  refine lw_arg hC hi hl hSh (j := 1) (by decide) da_1154 ?_
  refine lw_second hC am_mkr_10_158 (Nat.le_of_ble_eq_true rfl) [xs (i + 1)] rfl (fun _ => rfl) (fun hp h => pm_M_count S hp h (xs (i + 1))) hSh hl (Nat.le_of_ble_eq_true rfl) d_law_1159 (fun H locs hSh => ?_)
  refine lv_icmp_eq (tgt := 1217) hx hb d_law_1162 (by decide) (fun _ => ?_) (fun q => absurd rfl q)
  exact hN _ H locs ls hSh hl
/-- finding()I -/
theorem lw_c35 (hC : lw_Cx p s m args meth c D cT tb z b L xs cells slots) (hi : i + 6 ≤ L) (hN : lw_Nx p l e s m args below meth c Q D cT tb z b cells slots 1217 (i)) : lw_Nx p l e s m args below meth c Q D cT tb z b cells slots 1167 (i) := by
  intro S H locs ls hSh hl
  have hx := hC.1.1
  have hb := hC.1.2.1
  refine lv_aload_n hx hb d_law_1167 rfl (lv_at hl 1 rfl) ?_
  refine lw_first hC am_mkr_10_159 (Nat.le_of_ble_eq_true rfl) [] rfl (fun _ => rfl) (fun hp h => pc_T_finding S hp h ) hSh hl (Nat.le_of_ble_eq_true rfl) d_law_1168 (fun H locs hSh => ?_)
  refine lv_aload_n hx hb d_law_1171 rfl (lv_at hl 2 rfl) ?_
  refine lw_second hC am_mkr_10_162 (Nat.le_of_ble_eq_true rfl) [] rfl (fun _ => rfl) (fun hp h => pm_M_finding S hp h ) hSh hl (Nat.le_of_ble_eq_true rfl) d_law_1172 (fun H locs hSh => ?_)
  refine lv_icmp_eq (tgt := 1217) hx hb d_law_1175 (by decide) (fun _ => ?_) (fun q => absurd rfl q)
  exact hN _ H locs ls hSh hl
/-- findings(I)I -/
theorem lw_c36 (hC : lw_Cx p s m args meth c D cT tb z b L xs cells slots) (hi : i + 6 ≤ L) (hN : lw_Nx p l e s m args below meth c Q D cT tb z b cells slots 1217 (i)) : lw_Nx p l e s m args below meth c Q D cT tb z b cells slots 1180 (i) := by
  intro S H locs ls hSh hl
  have hx := hC.1.1
  have hb := hC.1.2.1
  refine lv_aload_n hx hb d_law_1180 rfl (lv_at hl 1 rfl) ?_
  refine lw_arg hC hi hl hSh (j := 1) (by decide) da_1181 ?_
  refine lw_first hC am_mkr_10_163 (Nat.le_of_ble_eq_true rfl) [xs (i + 1)] rfl (fun _ => rfl) (fun hp h => pc_T_findings S hp h (xs (i + 1))) hSh hl (Nat.le_of_ble_eq_true rfl) d_law_1186 (fun H locs hSh => ?_)
  refine lv_aload_n hx hb d_law_1189 rfl (lv_at hl 2 rfl) ?_
  refine lw_arg hC hi hl hSh (j := 1) (by decide) da_1190 ?_
  refine lw_second hC am_mkr_10_166 (Nat.le_of_ble_eq_true rfl) [xs (i + 1)] rfl (fun _ => rfl) (fun hp h => pm_M_findings S hp h (xs (i + 1))) hSh hl (Nat.le_of_ble_eq_true rfl) d_law_1195 (fun H locs hSh => ?_)
  refine lv_icmp_eq (tgt := 1217) hx hb d_law_1198 (by decide) (fun _ => ?_) (fun q => absurd rfl q)
  exact hN _ H locs ls hSh hl
/-- digest()J -/
theorem lw_c37 (hC : lw_Cx p s m args meth c D cT tb z b L xs cells slots) (hi : i + 6 ≤ L) (hN : lw_Nx p l e s m args below meth c Q D cT tb z b cells slots 1217 (i)) : lw_Nx p l e s m args below meth c Q D cT tb z b cells slots 1203 (i) := by
  intro S H locs ls hSh hl
  have hx := hC.1.1
  have hb := hC.1.2.1
  refine lv_aload_n hx hb d_law_1203 rfl (lv_at hl 1 rfl) ?_
  refine lw_first hC am_mkr_10_167 (Nat.le_of_ble_eq_true rfl) [] rfl (fun _ => rfl) (fun hp h => pc_T_digest S hp h ) hSh hl (Nat.le_of_ble_eq_true rfl) d_law_1204 (fun H locs hSh => ?_)
  refine lv_aload_n hx hb d_law_1207 rfl (lv_at hl 2 rfl) ?_
  refine lw_second hC am_mkr_10_170 (Nat.le_of_ble_eq_true rfl) [] rfl (fun _ => rfl) (fun hp h => pm_M_digest S hp h ) hSh hl (Nat.le_of_ble_eq_true rfl) d_law_1208 (fun H locs hSh => ?_)
  refine W.lcmp hx hb d_law_1211 ?_
  refine lv_if_eq (tgt := 1217) hx hb d_law_1212 (by decide) (fun _ => ?_) (fun q => absurd (lw_cmp0 _) q)
  exact hN _ H locs ls hSh hl
end LWC
