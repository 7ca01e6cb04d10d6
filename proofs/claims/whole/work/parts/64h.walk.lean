set_option maxRecDepth 100000 in
set_option maxHeartbeats 4000000 in
theorem w_L_law_b3520 {X : XT} {D : DT} {l : Launch} {xs : Nat → Int32} {nn : Nat} {K : Int32 → IT → LT → Prop} {X28 : Int32 → IT → LT → Prop} (hf : l.stackTraces = false) (hX : OK X D cL_law "TeaHouseLaw" 10) (hR : Room2 X l D 17 603072 7223402) (hN : NCX X) (hS : ScrAt X D nn xs) (hE : EndAt X D K 603072 7223402) {r28 s28 : Nat} (hx28 : ∀ {c w : Nat}, c + r28 ≤ 603072 → w + s28 ≤ 7223402 → ∀ (v5 : Int32) (I : IT) (L : LT), X28 v5 I L → J2 X D 10 c w I L 28 [.ref 1000300, .ref 0, .ref 190, .ref 195, .ref 196, .int v5, .retAddr 0, .retAddr 0, .retAddr 0, .retAddr 0] []) : ∀ {c w : Nat}, c + (0 + r28) ≤ 603072 → w + (0 + s28) ≤ 7223402 → ∀ (v5 : Int32) (I : IT) (L : LT), f_L_law_b3520 xs nn X28 K v5 I L → J2 X D 10 c w I L 3520 [.ref 1000300, .ref 0, .ref 190, .ref 195, .ref 196, .int v5, .retAddr 0, .retAddr 0, .retAddr 0, .retAddr 0] [] := by
  intro c w hc hw v5 I L h
  rw [f_L_law_b3520] at h
  replace h := bnd_e h
  refine q_iinc hX dL_law_3520 (by decide) rfl (v := _ + nI 5) (ls' := [_, _, _, _, _, _, _, _, _, _]) rfl rfl ?_
  refine q_goto hX dL_law_3523 (tgt := 28) (by decide) ?_
  exact q_dr (hx28 (by omega) (by omega) _ _ _  h) ⟨Or.inl rfl, Or.inl rfl, Or.inl rfl, Or.inl rfl, Or.inl rfl, Or.inl rfl, Or.inl rfl, Or.inl rfl, Or.inl rfl, Or.inl rfl, trivial⟩
set_option maxRecDepth 100000 in
set_option maxHeartbeats 4000000 in
theorem w_L_law_b316 {X : XT} {D : DT} {l : Launch} {xs : Nat → Int32} {nn : Nat} {K : Int32 → IT → LT → Prop} {X28 : Int32 → IT → LT → Prop} (hf : l.stackTraces = false) (hX : OK X D cL_law "TeaHouseLaw" 10) (hR : Room2 X l D 17 603072 7223402) (hN : NCX X) (hS : ScrAt X D nn xs) (hE : EndAt X D K 603072 7223402) {r28 s28 : Nat} (hx28 : ∀ {c w : Nat}, c + r28 ≤ 603072 → w + s28 ≤ 7223402 → ∀ (v5 : Int32) (I : IT) (L : LT), X28 v5 I L → J2 X D 10 c w I L 28 [.ref 1000300, .ref 0, .ref 190, .ref 195, .ref 196, .int v5, .retAddr 0, .retAddr 0, .retAddr 0, .retAddr 0] []) : ∀ {c w : Nat}, c + (1 + r28) ≤ 603072 → w + (6 + s28) ≤ 7223402 → ∀ (v5 : Int32) (I : IT) (L : LT), f_L_law_b316 xs nn X28 K v5 I L → J2 X D 10 c w I L 316 [.ref 1000300, .ref 0, .ref 190, .ref 195, .ref 196, .int v5, .retAddr 0, .retAddr 0, .retAddr 0, .retAddr 0] [] := by
  intro c w hc hw v5 I L h
  rw [f_L_law_b316] at h
  refine q_aload_n hX dL_law_316 rfl ?_
  refine q_aload_n hX dL_law_317 rfl ?_
  refine q_iload hX dL_law_318 rfl ?_
  refine q_iconst hX dL_law_320 (v := (nI 1)) (by decide) ?_
  refine q_iadd hX dL_law_321 ?_
  obtain ⟨z1, h⟩ := h
  refine q_sld hX hS dL_law_322 z1 ?_
  refine q_aload_n hX dL_law_323 rfl ?_
  refine q_SW hX hR hN (w_L_addKettle hf  h) lk_LW_160 dL_law_324 rfl rfl (Nat.le_of_ble_eq_true rfl) (by omega) (by omega) (by omega) ?_
  intro x2 I3 L4 h
  refine q_istore hX dL_law_327 (by decide) (ls' := [_, _, _, _, _, _, _, _, _, _]) rfl ?_
  refine q_aload_n hX dL_law_329 rfl ?_
  refine q_aload_n hX dL_law_330 rfl ?_
  refine q_iload hX dL_law_331 rfl ?_
  refine q_iconst hX dL_law_333 (v := (nI 1)) (by decide) ?_
  refine q_iadd hX dL_law_334 ?_
  refine q_sld hX hS dL_law_335 z1 ?_
  refine q_V_i hX hR (w_X9_addKettle  h) lk_L_165 (rc2_of (ci := 10) rfl rfl) dL_law_336 rfl rfl (Nat.le_of_ble_eq_true rfl) (by omega) (by omega) (by omega) ?_
  intro x5 I6 h
  refine q_istore hX dL_law_339 (by decide) (ls' := [_, _, _, _, _, _, _, _, _, _]) rfl ?_
  refine q_aload_n hX dL_law_341 rfl ?_
  refine q_V_ip hX hR (w_X9_thrown  h) lk_L_166 (rc2_of (ci := 10) rfl rfl) dL_law_342 rfl rfl (Nat.le_of_ble_eq_true rfl) (by omega) (by omega) (by omega) ?_
  intro x7 h
  refine q_iload hX dL_law_345 rfl ?_
  refine q_icmp_eq hX dL_law_347 (tgt := 352) (by decide) (fun q8 => ?_) (fun q8 => ?_)
  · replace h := ite_t q8 h
    refine q_iload hX dL_law_352 rfl ?_
    refine q_if_ne hX dL_law_354 (tgt := 369) (by decide) (fun q9 => ?_) (fun q9 => ?_)
    · replace h := ite_f q9 h
      refine q_goto hX dL_law_369 (tgt := 3520) (by decide) ?_
      exact q_dr (w_L_law_b3520 hf hX hR hN hS hE  (r28 := r28) (s28 := s28) hx28  (by omega) (by omega) _ _ _  h) ⟨Or.inl rfl, Or.inl rfl, Or.inl rfl, Or.inl rfl, Or.inl rfl, Or.inl rfl, Or.inr rfl, Or.inr rfl, Or.inl rfl, Or.inl rfl, trivial⟩
    · replace h := ite_t q9 h
      refine q_aload_n hX dL_law_357 rfl ?_
      refine q_iconst hX dL_law_358 (v := (nI 0)) (by decide) ?_
      refine q_lald hX dL_law_359 ?_
      refine q_iload hX dL_law_360 rfl ?_
      refine q_i2l hX dL_law_362 rfl ?_
      refine q_lcmp hX dL_law_363 ?_
      refine q_if_eq hX dL_law_364 (tgt := 369) (by decide) (fun q10 => ?_) (fun q10 => ?_)
      · replace h := ite_t q10 h
        refine q_goto hX dL_law_369 (tgt := 3520) (by decide) ?_
        exact q_dr (w_L_law_b3520 hf hX hR hN hS hE  (r28 := r28) (s28 := s28) hx28  (by omega) (by omega) _ _ _  h) ⟨Or.inl rfl, Or.inl rfl, Or.inl rfl, Or.inl rfl, Or.inl rfl, Or.inl rfl, Or.inr rfl, Or.inr rfl, Or.inl rfl, Or.inl rfl, trivial⟩
      · replace h := ite_f q10 h
        refine q_iconst hX dL_law_367 (v := (nI 0)) (by decide) ?_
        exact hE dL_law_368 (by omega) (by omega) h
  · replace h := ite_f q8 h
    refine q_iconst hX dL_law_350 (v := (nI 0)) (by decide) ?_
    exact hE dL_law_351 (by omega) (by omega) h
set_option maxRecDepth 100000 in
set_option maxHeartbeats 4000000 in
theorem w_L_law_b372 {X : XT} {D : DT} {l : Launch} {xs : Nat → Int32} {nn : Nat} {K : Int32 → IT → LT → Prop} {X28 : Int32 → IT → LT → Prop} (hf : l.stackTraces = false) (hX : OK X D cL_law "TeaHouseLaw" 10) (hR : Room2 X l D 17 603072 7223402) (hN : NCX X) (hS : ScrAt X D nn xs) (hE : EndAt X D K 603072 7223402) {r28 s28 : Nat} (hx28 : ∀ {c w : Nat}, c + r28 ≤ 603072 → w + s28 ≤ 7223402 → ∀ (v5 : Int32) (I : IT) (L : LT), X28 v5 I L → J2 X D 10 c w I L 28 [.ref 1000300, .ref 0, .ref 190, .ref 195, .ref 196, .int v5, .retAddr 0, .retAddr 0, .retAddr 0, .retAddr 0] []) : ∀ {c w : Nat}, c + (1 + r28) ≤ 603072 → w + (6 + s28) ≤ 7223402 → ∀ (v5 : Int32) (I : IT) (L : LT), f_L_law_b372 xs nn X28 K v5 I L → J2 X D 10 c w I L 372 [.ref 1000300, .ref 0, .ref 190, .ref 195, .ref 196, .int v5, .retAddr 0, .retAddr 0, .retAddr 0, .retAddr 0] [] := by
  intro c w hc hw v5 I L h
  rw [f_L_law_b372] at h
  refine q_aload_n hX dL_law_372 rfl ?_
  refine q_aload_n hX dL_law_373 rfl ?_
  refine q_iload hX dL_law_374 rfl ?_
  refine q_iconst hX dL_law_376 (v := (nI 1)) (by decide) ?_
  refine q_iadd hX dL_law_377 ?_
  obtain ⟨z1, h⟩ := h
  refine q_sld hX hS dL_law_378 z1 ?_
  refine q_aload_n hX dL_law_379 rfl ?_
  refine q_iload hX dL_law_380 rfl ?_
  refine q_iconst hX dL_law_382 (v := (nI 2)) (by decide) ?_
  refine q_iadd hX dL_law_383 ?_
  obtain ⟨z2, h⟩ := h
  refine q_sld hX hS dL_law_384 z2 ?_
  refine q_aload hX dL_law_385 rfl ?_
  refine q_SW hX hR hN (w_L_fill hf  h) lk_LW_169 dL_law_387 rfl rfl (Nat.le_of_ble_eq_true rfl) (by omega) (by omega) (by omega) ?_
  intro x3 I4 L5 h
  refine q_istore hX dL_law_390 (by decide) (ls' := [_, _, _, _, _, _, _, _, _, _]) rfl ?_
  refine q_aload_n hX dL_law_392 rfl ?_
  refine q_aload_n hX dL_law_393 rfl ?_
  refine q_iload hX dL_law_394 rfl ?_
  refine q_iconst hX dL_law_396 (v := (nI 1)) (by decide) ?_
  refine q_iadd hX dL_law_397 ?_
  refine q_sld hX hS dL_law_398 z1 ?_
  refine q_aload_n hX dL_law_399 rfl ?_
  refine q_iload hX dL_law_400 rfl ?_
  refine q_iconst hX dL_law_402 (v := (nI 2)) (by decide) ?_
  refine q_iadd hX dL_law_403 ?_
  refine q_sld hX hS dL_law_404 z2 ?_
  refine q_V_f hX hR (w_X9_fill  h) lk_L_172 (rc2_of (ci := 10) rfl rfl) dL_law_405 rfl rfl (Nat.le_of_ble_eq_true rfl) (by omega) (by omega) (by omega) ?_
  intro x6 I7 h
  refine q_fstore hX dL_law_408 (by decide) (ls' := [_, _, _, _, _, _, _, _, _, _]) rfl ?_
  refine q_aload_n hX dL_law_410 rfl ?_
  refine q_V_ip hX hR (w_X9_thrown  h) lk_L_166 (rc2_of (ci := 10) rfl rfl) dL_law_411 rfl rfl (Nat.le_of_ble_eq_true rfl) (by omega) (by omega) (by omega) ?_
  intro x8 h
  refine q_iload hX dL_law_414 rfl ?_
  refine q_icmp_eq hX dL_law_416 (tgt := 421) (by decide) (fun q9 => ?_) (fun q9 => ?_)
  · replace h := ite_t q9 h
    refine q_iload hX dL_law_421 rfl ?_
    refine q_if_ne hX dL_law_423 (tgt := 459) (by decide) (fun q10 => ?_) (fun q10 => ?_)
    · replace h := ite_f q10 h
      refine q_goto hX dL_law_459 (tgt := 3520) (by decide) ?_
      exact q_dr (w_L_law_b3520 hf hX hR hN hS hE  (r28 := r28) (s28 := s28) hx28  (by omega) (by omega) _ _ _  h) ⟨Or.inl rfl, Or.inl rfl, Or.inl rfl, Or.inl rfl, Or.inl rfl, Or.inl rfl, Or.inr rfl, Or.inr rfl, Or.inl rfl, Or.inl rfl, trivial⟩
    · replace h := ite_t q10 h
      refine q_aload hX dL_law_426 rfl ?_
      refine q_iconst hX dL_law_428 (v := (nI 0)) (by decide) ?_
      refine q_dald hX dL_law_429 ?_
      refine q_fload hX dL_law_430 rfl ?_
      obtain ⟨z11, h⟩ := h
      refine q_f2d hX dL_law_432 z11 ?_
      refine q_dcmp hX dL_law_433 ?_
      refine q_if_eq hX dL_law_434 (tgt := 459) (by decide) (fun q12 => ?_) (fun q12 => ?_)
      · replace h := ite_t q12 h
        refine q_goto hX dL_law_459 (tgt := 3520) (by decide) ?_
        exact q_dr (w_L_law_b3520 hf hX hR hN hS hE  (r28 := r28) (s28 := s28) hx28  (by omega) (by omega) _ _ _  h) ⟨Or.inl rfl, Or.inl rfl, Or.inl rfl, Or.inl rfl, Or.inl rfl, Or.inl rfl, Or.inr rfl, Or.inr rfl, Or.inl rfl, Or.inl rfl, trivial⟩
      · replace h := ite_f q12 h
        refine q_aload hX dL_law_437 rfl ?_
        refine q_iconst hX dL_law_439 (v := (nI 0)) (by decide) ?_
        refine q_dald hX dL_law_440 ?_
        refine q_aload hX dL_law_441 rfl ?_
        refine q_iconst hX dL_law_443 (v := (nI 0)) (by decide) ?_
        refine q_dald hX dL_law_444 ?_
        refine q_dcmp hX dL_law_445 ?_
        refine q_if_eq hX dL_law_446 (tgt := 457) (by decide) (fun q13 => ?_) (fun q13 => ?_)
        · replace h := ite_t q13 h
          refine q_iconst hX dL_law_457 (v := (nI 0)) (by decide) ?_
          exact hE dL_law_458 (by omega) (by omega) h
        · replace h := ite_f q13 h
          refine q_fload hX dL_law_449 rfl ?_
          refine q_fload hX dL_law_451 rfl ?_
          refine q_fcmp hX dL_law_453 ?_
          refine q_if_ne hX dL_law_454 (tgt := 459) (by decide) (fun q14 => ?_) (fun q14 => ?_)
          · replace h := ite_f q14 h
            refine q_goto hX dL_law_459 (tgt := 3520) (by decide) ?_
            exact q_dr (w_L_law_b3520 hf hX hR hN hS hE  (r28 := r28) (s28 := s28) hx28  (by omega) (by omega) _ _ _  h) ⟨Or.inl rfl, Or.inl rfl, Or.inl rfl, Or.inl rfl, Or.inl rfl, Or.inl rfl, Or.inr rfl, Or.inr rfl, Or.inl rfl, Or.inl rfl, trivial⟩
          · replace h := ite_t q14 h
            refine q_iconst hX dL_law_457 (v := (nI 0)) (by decide) ?_
            exact hE dL_law_458 (by omega) (by omega) h
  · replace h := ite_f q9 h
    refine q_iconst hX dL_law_419 (v := (nI 0)) (by decide) ?_
    exact hE dL_law_420 (by omega) (by omega) h
set_option maxRecDepth 100000 in
set_option maxHeartbeats 4000000 in
theorem w_L_law_b462 {X : XT} {D : DT} {l : Launch} {xs : Nat → Int32} {nn : Nat} {K : Int32 → IT → LT → Prop} {X28 : Int32 → IT → LT → Prop} (hf : l.stackTraces = false) (hX : OK X D cL_law "TeaHouseLaw" 10) (hR : Room2 X l D 17 603072 7223402) (hN : NCX X) (hS : ScrAt X D nn xs) (hE : EndAt X D K 603072 7223402) {r28 s28 : Nat} (hx28 : ∀ {c w : Nat}, c + r28 ≤ 603072 → w + s28 ≤ 7223402 → ∀ (v5 : Int32) (I : IT) (L : LT), X28 v5 I L → J2 X D 10 c w I L 28 [.ref 1000300, .ref 0, .ref 190, .ref 195, .ref 196, .int v5, .retAddr 0, .retAddr 0, .retAddr 0, .retAddr 0] []) : ∀ {c w : Nat}, c + (1 + r28) ≤ 603072 → w + (6 + s28) ≤ 7223402 → ∀ (v5 : Int32) (I : IT) (L : LT), f_L_law_b462 xs nn X28 K v5 I L → J2 X D 10 c w I L 462 [.ref 1000300, .ref 0, .ref 190, .ref 195, .ref 196, .int v5, .retAddr 0, .retAddr 0, .retAddr 0, .retAddr 0] [] := by
  intro c w hc hw v5 I L h
  rw [f_L_law_b462] at h
  refine q_aload_n hX dL_law_462 rfl ?_
  refine q_aload_n hX dL_law_463 rfl ?_
  refine q_iload hX dL_law_464 rfl ?_
  refine q_iconst hX dL_law_466 (v := (nI 1)) (by decide) ?_
  refine q_iadd hX dL_law_467 ?_
  obtain ⟨z1, h⟩ := h
  refine q_sld hX hS dL_law_468 z1 ?_
  refine q_aload_n hX dL_law_469 rfl ?_
  refine q_iload hX dL_law_470 rfl ?_
  refine q_iconst hX dL_law_472 (v := (nI 2)) (by decide) ?_
  refine q_iadd hX dL_law_473 ?_
  obtain ⟨z2, h⟩ := h
  refine q_sld hX hS dL_law_474 z2 ?_
  refine q_aload_n hX dL_law_475 rfl ?_
  refine q_SW hX hR hN (w_L_setBurner hf  h) lk_LW_173 dL_law_476 rfl rfl (Nat.le_of_ble_eq_true rfl) (by omega) (by omega) (by omega) ?_
  intro x3 I4 L5 h
  refine q_istore hX dL_law_479 (by decide) (ls' := [_, _, _, _, _, _, _, _, _, _]) rfl ?_
  refine q_aload_n hX dL_law_481 rfl ?_
  refine q_aload_n hX dL_law_482 rfl ?_
  refine q_iload hX dL_law_483 rfl ?_
  refine q_iconst hX dL_law_485 (v := (nI 1)) (by decide) ?_
  refine q_iadd hX dL_law_486 ?_
  refine q_sld hX hS dL_law_487 z1 ?_
  refine q_aload_n hX dL_law_488 rfl ?_
  refine q_iload hX dL_law_489 rfl ?_
  refine q_iconst hX dL_law_491 (v := (nI 2)) (by decide) ?_
  refine q_iadd hX dL_law_492 ?_
  refine q_sld hX hS dL_law_493 z2 ?_
  refine q_V_i hX hR (w_X9_setBurner  h) lk_L_176 (rc2_of (ci := 10) rfl rfl) dL_law_494 rfl rfl (Nat.le_of_ble_eq_true rfl) (by omega) (by omega) (by omega) ?_
  intro x6 I7 h
  refine q_istore hX dL_law_497 (by decide) (ls' := [_, _, _, _, _, _, _, _, _, _]) rfl ?_
  refine q_aload_n hX dL_law_499 rfl ?_
  refine q_V_ip hX hR (w_X9_thrown  h) lk_L_166 (rc2_of (ci := 10) rfl rfl) dL_law_500 rfl rfl (Nat.le_of_ble_eq_true rfl) (by omega) (by omega) (by omega) ?_
  intro x8 h
  refine q_iload hX dL_law_503 rfl ?_
  refine q_icmp_eq hX dL_law_505 (tgt := 510) (by decide) (fun q9 => ?_) (fun q9 => ?_)
  · replace h := ite_t q9 h
    refine q_iload hX dL_law_510 rfl ?_
    refine q_if_ne hX dL_law_512 (tgt := 527) (by decide) (fun q10 => ?_) (fun q10 => ?_)
    · replace h := ite_f q10 h
      refine q_goto hX dL_law_527 (tgt := 3520) (by decide) ?_
      exact q_dr (w_L_law_b3520 hf hX hR hN hS hE  (r28 := r28) (s28 := s28) hx28  (by omega) (by omega) _ _ _  h) ⟨Or.inl rfl, Or.inl rfl, Or.inl rfl, Or.inl rfl, Or.inl rfl, Or.inl rfl, Or.inr rfl, Or.inr rfl, Or.inl rfl, Or.inl rfl, trivial⟩
    · replace h := ite_t q10 h
      refine q_aload_n hX dL_law_515 rfl ?_
      refine q_iconst hX dL_law_516 (v := (nI 0)) (by decide) ?_
      refine q_lald hX dL_law_517 ?_
      refine q_iload hX dL_law_518 rfl ?_
      refine q_i2l hX dL_law_520 rfl ?_
      refine q_lcmp hX dL_law_521 ?_
      refine q_if_eq hX dL_law_522 (tgt := 527) (by decide) (fun q11 => ?_) (fun q11 => ?_)
      · replace h := ite_t q11 h
        refine q_goto hX dL_law_527 (tgt := 3520) (by decide) ?_
        exact q_dr (w_L_law_b3520 hf hX hR hN hS hE  (r28 := r28) (s28 := s28) hx28  (by omega) (by omega) _ _ _  h) ⟨Or.inl rfl, Or.inl rfl, Or.inl rfl, Or.inl rfl, Or.inl rfl, Or.inl rfl, Or.inr rfl, Or.inr rfl, Or.inl rfl, Or.inl rfl, trivial⟩
      · replace h := ite_f q11 h
        refine q_iconst hX dL_law_525 (v := (nI 0)) (by decide) ?_
        exact hE dL_law_526 (by omega) (by omega) h
  · replace h := ite_f q9 h
    refine q_iconst hX dL_law_508 (v := (nI 0)) (by decide) ?_
    exact hE dL_law_509 (by omega) (by omega) h
set_option maxRecDepth 100000 in
set_option maxHeartbeats 4000000 in
theorem w_L_law_b530 {X : XT} {D : DT} {l : Launch} {xs : Nat → Int32} {nn : Nat} {K : Int32 → IT → LT → Prop} {X28 : Int32 → IT → LT → Prop} (hf : l.stackTraces = false) (hX : OK X D cL_law "TeaHouseLaw" 10) (hR : Room2 X l D 17 603072 7223402) (hN : NCX X) (hS : ScrAt X D nn xs) (hE : EndAt X D K 603072 7223402) {r28 s28 : Nat} (hx28 : ∀ {c w : Nat}, c + r28 ≤ 603072 → w + s28 ≤ 7223402 → ∀ (v5 : Int32) (I : IT) (L : LT), X28 v5 I L → J2 X D 10 c w I L 28 [.ref 1000300, .ref 0, .ref 190, .ref 195, .ref 196, .int v5, .retAddr 0, .retAddr 0, .retAddr 0, .retAddr 0] []) : ∀ {c w : Nat}, c + (1 + r28) ≤ 603072 → w + (6 + s28) ≤ 7223402 → ∀ (v5 : Int32) (I : IT) (L : LT), f_L_law_b530 xs nn X28 K v5 I L → J2 X D 10 c w I L 530 [.ref 1000300, .ref 0, .ref 190, .ref 195, .ref 196, .int v5, .retAddr 0, .retAddr 0, .retAddr 0, .retAddr 0] [] := by
  intro c w hc hw v5 I L h
  rw [f_L_law_b530] at h
  refine q_aload_n hX dL_law_530 rfl ?_
  refine q_aload_n hX dL_law_531 rfl ?_
  refine q_iload hX dL_law_532 rfl ?_
  refine q_iconst hX dL_law_534 (v := (nI 1)) (by decide) ?_
  refine q_iadd hX dL_law_535 ?_
  obtain ⟨z1, h⟩ := h
  refine q_sld hX hS dL_law_536 z1 ?_
  refine q_aload_n hX dL_law_537 rfl ?_
  refine q_iload hX dL_law_538 rfl ?_
  refine q_iconst hX dL_law_540 (v := (nI 2)) (by decide) ?_
  refine q_iadd hX dL_law_541 ?_
  obtain ⟨z2, h⟩ := h
  refine q_sld hX hS dL_law_542 z2 ?_
  refine q_aload_n hX dL_law_543 rfl ?_
  refine q_iload hX dL_law_544 rfl ?_
  refine q_iconst hX dL_law_546 (v := (nI 3)) (by decide) ?_
  refine q_iadd hX dL_law_547 ?_
  obtain ⟨z3, h⟩ := h
  refine q_sld hX hS dL_law_548 z3 ?_
  refine q_aload_n hX dL_law_549 rfl ?_
  refine q_iload hX dL_law_550 rfl ?_
  refine q_iconst hX dL_law_552 (v := (nI 4)) (by decide) ?_
  refine q_iadd hX dL_law_553 ?_
  obtain ⟨z4, h⟩ := h
  refine q_sld hX hS dL_law_554 z4 ?_
  refine q_aload_n hX dL_law_555 rfl ?_
  refine q_SW hX hR hN (w_L_order hf  h) lk_LW_177 dL_law_556 rfl rfl (Nat.le_of_ble_eq_true rfl) (by omega) (by omega) (by omega) ?_
  intro x5 I6 L7 h
  refine q_istore hX dL_law_559 (by decide) (ls' := [_, _, _, _, _, _, _, _, _, _]) rfl ?_
  refine q_aload_n hX dL_law_561 rfl ?_
  refine q_aload_n hX dL_law_562 rfl ?_
  refine q_iload hX dL_law_563 rfl ?_
  refine q_iconst hX dL_law_565 (v := (nI 1)) (by decide) ?_
  refine q_iadd hX dL_law_566 ?_
  refine q_sld hX hS dL_law_567 z1 ?_
  refine q_aload_n hX dL_law_568 rfl ?_
  refine q_iload hX dL_law_569 rfl ?_
  refine q_iconst hX dL_law_571 (v := (nI 2)) (by decide) ?_
  refine q_iadd hX dL_law_572 ?_
  refine q_sld hX hS dL_law_573 z2 ?_
  refine q_aload_n hX dL_law_574 rfl ?_
  refine q_iload hX dL_law_575 rfl ?_
  refine q_iconst hX dL_law_577 (v := (nI 3)) (by decide) ?_
  refine q_iadd hX dL_law_578 ?_
  refine q_sld hX hS dL_law_579 z3 ?_
  refine q_aload_n hX dL_law_580 rfl ?_
  refine q_iload hX dL_law_581 rfl ?_
  refine q_iconst hX dL_law_583 (v := (nI 4)) (by decide) ?_
  refine q_iadd hX dL_law_584 ?_
  refine q_sld hX hS dL_law_585 z4 ?_
  refine q_V_i hX hR (w_X9_order  h) lk_L_180 (rc2_of (ci := 10) rfl rfl) dL_law_586 rfl rfl (Nat.le_of_ble_eq_true rfl) (by omega) (by omega) (by omega) ?_
  intro x8 I9 h
  refine q_istore hX dL_law_589 (by decide) (ls' := [_, _, _, _, _, _, _, _, _, _]) rfl ?_
  refine q_aload_n hX dL_law_591 rfl ?_
  refine q_V_ip hX hR (w_X9_thrown  h) lk_L_166 (rc2_of (ci := 10) rfl rfl) dL_law_592 rfl rfl (Nat.le_of_ble_eq_true rfl) (by omega) (by omega) (by omega) ?_
  intro x10 h
  refine q_iload hX dL_law_595 rfl ?_
  refine q_icmp_eq hX dL_law_597 (tgt := 602) (by decide) (fun q11 => ?_) (fun q11 => ?_)
  · replace h := ite_t q11 h
    refine q_iload hX dL_law_602 rfl ?_
    refine q_if_ne hX dL_law_604 (tgt := 619) (by decide) (fun q12 => ?_) (fun q12 => ?_)
    · replace h := ite_f q12 h
      refine q_goto hX dL_law_619 (tgt := 3520) (by decide) ?_
      exact q_dr (w_L_law_b3520 hf hX hR hN hS hE  (r28 := r28) (s28 := s28) hx28  (by omega) (by omega) _ _ _  h) ⟨Or.inl rfl, Or.inl rfl, Or.inl rfl, Or.inl rfl, Or.inl rfl, Or.inl rfl, Or.inr rfl, Or.inr rfl, Or.inl rfl, Or.inl rfl, trivial⟩
    · replace h := ite_t q12 h
      refine q_aload_n hX dL_law_607 rfl ?_
      refine q_iconst hX dL_law_608 (v := (nI 0)) (by decide) ?_
      refine q_lald hX dL_law_609 ?_
      refine q_iload hX dL_law_610 rfl ?_
      refine q_i2l hX dL_law_612 rfl ?_
      refine q_lcmp hX dL_law_613 ?_
      refine q_if_eq hX dL_law_614 (tgt := 619) (by decide) (fun q13 => ?_) (fun q13 => ?_)
      · replace h := ite_t q13 h
        refine q_goto hX dL_law_619 (tgt := 3520) (by decide) ?_
        exact q_dr (w_L_law_b3520 hf hX hR hN hS hE  (r28 := r28) (s28 := s28) hx28  (by omega) (by omega) _ _ _  h) ⟨Or.inl rfl, Or.inl rfl, Or.inl rfl, Or.inl rfl, Or.inl rfl, Or.inl rfl, Or.inr rfl, Or.inr rfl, Or.inl rfl, Or.inl rfl, trivial⟩
      · replace h := ite_f q13 h
        refine q_iconst hX dL_law_617 (v := (nI 0)) (by decide) ?_
        exact hE dL_law_618 (by omega) (by omega) h
  · replace h := ite_f q11 h
    refine q_iconst hX dL_law_600 (v := (nI 0)) (by decide) ?_
    exact hE dL_law_601 (by omega) (by omega) h
set_option maxRecDepth 100000 in
set_option maxHeartbeats 4000000 in
theorem w_L_law_b622 {X : XT} {D : DT} {l : Launch} {xs : Nat → Int32} {nn : Nat} {K : Int32 → IT → LT → Prop} {X28 : Int32 → IT → LT → Prop} (hf : l.stackTraces = false) (hX : OK X D cL_law "TeaHouseLaw" 10) (hR : Room2 X l D 17 603072 7223402) (hN : NCX X) (hS : ScrAt X D nn xs) (hE : EndAt X D K 603072 7223402) {r28 s28 : Nat} (hx28 : ∀ {c w : Nat}, c + r28 ≤ 603072 → w + s28 ≤ 7223402 → ∀ (v5 : Int32) (I : IT) (L : LT), X28 v5 I L → J2 X D 10 c w I L 28 [.ref 1000300, .ref 0, .ref 190, .ref 195, .ref 196, .int v5, .retAddr 0, .retAddr 0, .retAddr 0, .retAddr 0] []) : ∀ {c w : Nat}, c + (1 + r28) ≤ 603072 → w + (6 + s28) ≤ 7223402 → ∀ (v5 : Int32) (I : IT) (L : LT), f_L_law_b622 xs nn X28 K v5 I L → J2 X D 10 c w I L 622 [.ref 1000300, .ref 0, .ref 190, .ref 195, .ref 196, .int v5, .retAddr 0, .retAddr 0, .retAddr 0, .retAddr 0] [] := by
  intro c w hc hw v5 I L h
  rw [f_L_law_b622] at h
  refine q_aload_n hX dL_law_622 rfl ?_
  refine q_aload_n hX dL_law_623 rfl ?_
  refine q_iload hX dL_law_624 rfl ?_
  refine q_iconst hX dL_law_626 (v := (nI 1)) (by decide) ?_
  refine q_iadd hX dL_law_627 ?_
  obtain ⟨z1, h⟩ := h
  refine q_sld hX hS dL_law_628 z1 ?_
  refine q_aload_n hX dL_law_629 rfl ?_
  refine q_SW hX hR hN (w_L_cancel hf  h) lk_LW_181 dL_law_630 rfl rfl (Nat.le_of_ble_eq_true rfl) (by omega) (by omega) (by omega) ?_
  intro x2 I3 L4 h
  refine q_istore hX dL_law_633 (by decide) (ls' := [_, _, _, _, _, _, _, _, _, _]) rfl ?_
  refine q_aload_n hX dL_law_635 rfl ?_
  refine q_aload_n hX dL_law_636 rfl ?_
  refine q_iload hX dL_law_637 rfl ?_
  refine q_iconst hX dL_law_639 (v := (nI 1)) (by decide) ?_
  refine q_iadd hX dL_law_640 ?_
  refine q_sld hX hS dL_law_641 z1 ?_
  refine q_V_i hX hR (w_X9_cancel  h) lk_L_183 (rc2_of (ci := 10) rfl rfl) dL_law_642 rfl rfl (Nat.le_of_ble_eq_true rfl) (by omega) (by omega) (by omega) ?_
  intro x5 I6 h
  refine q_istore hX dL_law_645 (by decide) (ls' := [_, _, _, _, _, _, _, _, _, _]) rfl ?_
  refine q_aload_n hX dL_law_647 rfl ?_
  refine q_V_ip hX hR (w_X9_thrown  h) lk_L_166 (rc2_of (ci := 10) rfl rfl) dL_law_648 rfl rfl (Nat.le_of_ble_eq_true rfl) (by omega) (by omega) (by omega) ?_
  intro x7 h
  refine q_iload hX dL_law_651 rfl ?_
  refine q_icmp_eq hX dL_law_653 (tgt := 658) (by decide) (fun q8 => ?_) (fun q8 => ?_)
  · replace h := ite_t q8 h
    refine q_iload hX dL_law_658 rfl ?_
    refine q_if_ne hX dL_law_660 (tgt := 675) (by decide) (fun q9 => ?_) (fun q9 => ?_)
    · replace h := ite_f q9 h
      refine q_goto hX dL_law_675 (tgt := 3520) (by decide) ?_
      exact q_dr (w_L_law_b3520 hf hX hR hN hS hE  (r28 := r28) (s28 := s28) hx28  (by omega) (by omega) _ _ _  h) ⟨Or.inl rfl, Or.inl rfl, Or.inl rfl, Or.inl rfl, Or.inl rfl, Or.inl rfl, Or.inr rfl, Or.inr rfl, Or.inl rfl, Or.inl rfl, trivial⟩
    · replace h := ite_t q9 h
      refine q_aload_n hX dL_law_663 rfl ?_
      refine q_iconst hX dL_law_664 (v := (nI 0)) (by decide) ?_
      refine q_lald hX dL_law_665 ?_
      refine q_iload hX dL_law_666 rfl ?_
      refine q_i2l hX dL_law_668 rfl ?_
      refine q_lcmp hX dL_law_669 ?_
      refine q_if_eq hX dL_law_670 (tgt := 675) (by decide) (fun q10 => ?_) (fun q10 => ?_)
      · replace h := ite_t q10 h
        refine q_goto hX dL_law_675 (tgt := 3520) (by decide) ?_
        exact q_dr (w_L_law_b3520 hf hX hR hN hS hE  (r28 := r28) (s28 := s28) hx28  (by omega) (by omega) _ _ _  h) ⟨Or.inl rfl, Or.inl rfl, Or.inl rfl, Or.inl rfl, Or.inl rfl, Or.inl rfl, Or.inr rfl, Or.inr rfl, Or.inl rfl, Or.inl rfl, trivial⟩
      · replace h := ite_f q10 h
        refine q_iconst hX dL_law_673 (v := (nI 0)) (by decide) ?_
        exact hE dL_law_674 (by omega) (by omega) h
  · replace h := ite_f q8 h
    refine q_iconst hX dL_law_656 (v := (nI 0)) (by decide) ?_
    exact hE dL_law_657 (by omega) (by omega) h
set_option maxRecDepth 100000 in
set_option maxHeartbeats 4000000 in
theorem w_L_law_b678 {X : XT} {D : DT} {l : Launch} {xs : Nat → Int32} {nn : Nat} {K : Int32 → IT → LT → Prop} {X28 : Int32 → IT → LT → Prop} (hf : l.stackTraces = false) (hX : OK X D cL_law "TeaHouseLaw" 10) (hR : Room2 X l D 17 603072 7223402) (hN : NCX X) (hS : ScrAt X D nn xs) (hE : EndAt X D K 603072 7223402) {r28 s28 : Nat} (hx28 : ∀ {c w : Nat}, c + r28 ≤ 603072 → w + s28 ≤ 7223402 → ∀ (v5 : Int32) (I : IT) (L : LT), X28 v5 I L → J2 X D 10 c w I L 28 [.ref 1000300, .ref 0, .ref 190, .ref 195, .ref 196, .int v5, .retAddr 0, .retAddr 0, .retAddr 0, .retAddr 0] []) : ∀ {c w : Nat}, c + (1 + r28) ≤ 603072 → w + (6 + s28) ≤ 7223402 → ∀ (v5 : Int32) (I : IT) (L : LT), f_L_law_b678 xs nn X28 K v5 I L → J2 X D 10 c w I L 678 [.ref 1000300, .ref 0, .ref 190, .ref 195, .ref 196, .int v5, .retAddr 0, .retAddr 0, .retAddr 0, .retAddr 0] [] := by
  intro c w hc hw v5 I L h
  rw [f_L_law_b678] at h
  refine q_aload_n hX dL_law_678 rfl ?_
  refine q_aload_n hX dL_law_679 rfl ?_
  refine q_SW hX hR hN (w_L_serveNext hf  h) lk_LW_184 dL_law_680 rfl rfl (Nat.le_of_ble_eq_true rfl) (by omega) (by omega) (by omega) ?_
  intro x1 I2 L3 h
  refine q_istore hX dL_law_683 (by decide) (ls' := [_, _, _, _, _, _, _, _, _, _]) rfl ?_
  refine q_aload_n hX dL_law_685 rfl ?_
  refine q_V_i hX hR (w_X9_serveNext  h) lk_L_187 (rc2_of (ci := 10) rfl rfl) dL_law_686 rfl rfl (Nat.le_of_ble_eq_true rfl) (by omega) (by omega) (by omega) ?_
  intro x4 I5 h
  refine q_istore hX dL_law_689 (by decide) (ls' := [_, _, _, _, _, _, _, _, _, _]) rfl ?_
  refine q_aload_n hX dL_law_691 rfl ?_
  refine q_V_ip hX hR (w_X9_thrown  h) lk_L_166 (rc2_of (ci := 10) rfl rfl) dL_law_692 rfl rfl (Nat.le_of_ble_eq_true rfl) (by omega) (by omega) (by omega) ?_
  intro x6 h
  refine q_iload hX dL_law_695 rfl ?_
  refine q_icmp_eq hX dL_law_697 (tgt := 702) (by decide) (fun q7 => ?_) (fun q7 => ?_)
  · replace h := ite_t q7 h
    refine q_iload hX dL_law_702 rfl ?_
    refine q_if_ne hX dL_law_704 (tgt := 719) (by decide) (fun q8 => ?_) (fun q8 => ?_)
    · replace h := ite_f q8 h
      refine q_goto hX dL_law_719 (tgt := 3520) (by decide) ?_
      exact q_dr (w_L_law_b3520 hf hX hR hN hS hE  (r28 := r28) (s28 := s28) hx28  (by omega) (by omega) _ _ _  h) ⟨Or.inl rfl, Or.inl rfl, Or.inl rfl, Or.inl rfl, Or.inl rfl, Or.inl rfl, Or.inr rfl, Or.inr rfl, Or.inl rfl, Or.inl rfl, trivial⟩
    · replace h := ite_t q8 h
      refine q_aload_n hX dL_law_707 rfl ?_
      refine q_iconst hX dL_law_708 (v := (nI 0)) (by decide) ?_
      refine q_lald hX dL_law_709 ?_
      refine q_iload hX dL_law_710 rfl ?_
      refine q_i2l hX dL_law_712 rfl ?_
      refine q_lcmp hX dL_law_713 ?_
      refine q_if_eq hX dL_law_714 (tgt := 719) (by decide) (fun q9 => ?_) (fun q9 => ?_)
      · replace h := ite_t q9 h
        refine q_goto hX dL_law_719 (tgt := 3520) (by decide) ?_
        exact q_dr (w_L_law_b3520 hf hX hR hN hS hE  (r28 := r28) (s28 := s28) hx28  (by omega) (by omega) _ _ _  h) ⟨Or.inl rfl, Or.inl rfl, Or.inl rfl, Or.inl rfl, Or.inl rfl, Or.inl rfl, Or.inr rfl, Or.inr rfl, Or.inl rfl, Or.inl rfl, trivial⟩
      · replace h := ite_f q9 h
        refine q_iconst hX dL_law_717 (v := (nI 0)) (by decide) ?_
        exact hE dL_law_718 (by omega) (by omega) h
  · replace h := ite_f q7 h
    refine q_iconst hX dL_law_700 (v := (nI 0)) (by decide) ?_
    exact hE dL_law_701 (by omega) (by omega) h
set_option maxRecDepth 100000 in
set_option maxHeartbeats 4000000 in
theorem w_L_law_b722 {X : XT} {D : DT} {l : Launch} {xs : Nat → Int32} {nn : Nat} {K : Int32 → IT → LT → Prop} {X28 : Int32 → IT → LT → Prop} (hf : l.stackTraces = false) (hX : OK X D cL_law "TeaHouseLaw" 10) (hR : Room2 X l D 17 603072 7223402) (hN : NCX X) (hS : ScrAt X D nn xs) (hE : EndAt X D K 603072 7223402) {r28 s28 : Nat} (hx28 : ∀ {c w : Nat}, c + r28 ≤ 603072 → w + s28 ≤ 7223402 → ∀ (v5 : Int32) (I : IT) (L : LT), X28 v5 I L → J2 X D 10 c w I L 28 [.ref 1000300, .ref 0, .ref 190, .ref 195, .ref 196, .int v5, .retAddr 0, .retAddr 0, .retAddr 0, .retAddr 0] []) : ∀ {c w : Nat}, c + (1 + r28) ≤ 603072 → w + (6 + s28) ≤ 7223402 → ∀ (v5 : Int32) (I : IT) (L : LT), f_L_law_b722 xs nn X28 K v5 I L → J2 X D 10 c w I L 722 [.ref 1000300, .ref 0, .ref 190, .ref 195, .ref 196, .int v5, .retAddr 0, .retAddr 0, .retAddr 0, .retAddr 0] [] := by
  intro c w hc hw v5 I L h
  rw [f_L_law_b722] at h
  refine q_aload_n hX dL_law_722 rfl ?_
  refine q_aload_n hX dL_law_723 rfl ?_
  refine q_iload hX dL_law_724 rfl ?_
  refine q_iconst hX dL_law_726 (v := (nI 1)) (by decide) ?_
  refine q_iadd hX dL_law_727 ?_
  obtain ⟨z1, h⟩ := h
  refine q_sld hX hS dL_law_728 z1 ?_
  refine q_aload_n hX dL_law_729 rfl ?_
  refine q_SW hX hR hN (w_L_wash hf  h) lk_LW_188 dL_law_730 rfl rfl (Nat.le_of_ble_eq_true rfl) (by omega) (by omega) (by omega) ?_
  intro x2 I3 L4 h
  refine q_istore hX dL_law_733 (by decide) (ls' := [_, _, _, _, _, _, _, _, _, _]) rfl ?_
  refine q_aload_n hX dL_law_735 rfl ?_
  refine q_aload_n hX dL_law_736 rfl ?_
  refine q_iload hX dL_law_737 rfl ?_
  refine q_iconst hX dL_law_739 (v := (nI 1)) (by decide) ?_
  refine q_iadd hX dL_law_740 ?_
  refine q_sld hX hS dL_law_741 z1 ?_
  refine q_V_i hX hR (w_X9_wash  h) lk_L_190 (rc2_of (ci := 10) rfl rfl) dL_law_742 rfl rfl (Nat.le_of_ble_eq_true rfl) (by omega) (by omega) (by omega) ?_
  intro x5 I6 h
  refine q_istore hX dL_law_745 (by decide) (ls' := [_, _, _, _, _, _, _, _, _, _]) rfl ?_
  refine q_aload_n hX dL_law_747 rfl ?_
  refine q_V_ip hX hR (w_X9_thrown  h) lk_L_166 (rc2_of (ci := 10) rfl rfl) dL_law_748 rfl rfl (Nat.le_of_ble_eq_true rfl) (by omega) (by omega) (by omega) ?_
  intro x7 h
  refine q_iload hX dL_law_751 rfl ?_
  refine q_icmp_eq hX dL_law_753 (tgt := 758) (by decide) (fun q8 => ?_) (fun q8 => ?_)
  · replace h := ite_t q8 h
    refine q_iload hX dL_law_758 rfl ?_
    refine q_if_ne hX dL_law_760 (tgt := 775) (by decide) (fun q9 => ?_) (fun q9 => ?_)
    · replace h := ite_f q9 h
      refine q_goto hX dL_law_775 (tgt := 3520) (by decide) ?_
      exact q_dr (w_L_law_b3520 hf hX hR hN hS hE  (r28 := r28) (s28 := s28) hx28  (by omega) (by omega) _ _ _  h) ⟨Or.inl rfl, Or.inl rfl, Or.inl rfl, Or.inl rfl, Or.inl rfl, Or.inl rfl, Or.inr rfl, Or.inr rfl, Or.inl rfl, Or.inl rfl, trivial⟩
    · replace h := ite_t q9 h
      refine q_aload_n hX dL_law_763 rfl ?_
      refine q_iconst hX dL_law_764 (v := (nI 0)) (by decide) ?_
      refine q_lald hX dL_law_765 ?_
      refine q_iload hX dL_law_766 rfl ?_
      refine q_i2l hX dL_law_768 rfl ?_
      refine q_lcmp hX dL_law_769 ?_
      refine q_if_eq hX dL_law_770 (tgt := 775) (by decide) (fun q10 => ?_) (fun q10 => ?_)
      · replace h := ite_t q10 h
        refine q_goto hX dL_law_775 (tgt := 3520) (by decide) ?_
        exact q_dr (w_L_law_b3520 hf hX hR hN hS hE  (r28 := r28) (s28 := s28) hx28  (by omega) (by omega) _ _ _  h) ⟨Or.inl rfl, Or.inl rfl, Or.inl rfl, Or.inl rfl, Or.inl rfl, Or.inl rfl, Or.inr rfl, Or.inr rfl, Or.inl rfl, Or.inl rfl, trivial⟩
      · replace h := ite_f q10 h
        refine q_iconst hX dL_law_773 (v := (nI 0)) (by decide) ?_
        exact hE dL_law_774 (by omega) (by omega) h
  · replace h := ite_f q8 h
    refine q_iconst hX dL_law_756 (v := (nI 0)) (by decide) ?_
    exact hE dL_law_757 (by omega) (by omega) h
set_option maxRecDepth 100000 in
set_option maxHeartbeats 4000000 in
theorem w_L_law_b778 {X : XT} {D : DT} {l : Launch} {xs : Nat → Int32} {nn : Nat} {K : Int32 → IT → LT → Prop} {X28 : Int32 → IT → LT → Prop} (hf : l.stackTraces = false) (hX : OK X D cL_law "TeaHouseLaw" 10) (hR : Room2 X l D 17 603072 7223402) (hN : NCX X) (hS : ScrAt X D nn xs) (hE : EndAt X D K 603072 7223402) {r28 s28 : Nat} (hx28 : ∀ {c w : Nat}, c + r28 ≤ 603072 → w + s28 ≤ 7223402 → ∀ (v5 : Int32) (I : IT) (L : LT), X28 v5 I L → J2 X D 10 c w I L 28 [.ref 1000300, .ref 0, .ref 190, .ref 195, .ref 196, .int v5, .retAddr 0, .retAddr 0, .retAddr 0, .retAddr 0] []) : ∀ {c w : Nat}, c + (1 + r28) ≤ 603072 → w + (6 + s28) ≤ 7223402 → ∀ (v5 : Int32) (I : IT) (L : LT), f_L_law_b778 xs nn X28 K v5 I L → J2 X D 10 c w I L 778 [.ref 1000300, .ref 0, .ref 190, .ref 195, .ref 196, .int v5, .retAddr 0, .retAddr 0, .retAddr 0, .retAddr 0] [] := by
  intro c w hc hw v5 I L h
  rw [f_L_law_b778] at h
  refine q_aload_n hX dL_law_778 rfl ?_
  refine q_aload_n hX dL_law_779 rfl ?_
  refine q_iload hX dL_law_780 rfl ?_
  refine q_iconst hX dL_law_782 (v := (nI 1)) (by decide) ?_
  refine q_iadd hX dL_law_783 ?_
  obtain ⟨z1, h⟩ := h
  refine q_sld hX hS dL_law_784 z1 ?_
  refine q_aload hX dL_law_785 rfl ?_
  refine q_SW hX hR hN (w_L_sellSteam hf  h) lk_LW_191 dL_law_787 rfl rfl (Nat.le_of_ble_eq_true rfl) (by omega) (by omega) (by omega) ?_
  intro x2 I3 L4 h
  refine q_istore hX dL_law_790 (by decide) (ls' := [_, _, _, _, _, _, _, _, _, _]) rfl ?_
  refine q_aload_n hX dL_law_792 rfl ?_
  refine q_aload_n hX dL_law_793 rfl ?_
  refine q_iload hX dL_law_794 rfl ?_
  refine q_iconst hX dL_law_796 (v := (nI 1)) (by decide) ?_
  refine q_iadd hX dL_law_797 ?_
  refine q_sld hX hS dL_law_798 z1 ?_
  refine q_V_f hX hR (w_X9_sellSteam  h) lk_L_194 (rc2_of (ci := 10) rfl rfl) dL_law_799 rfl rfl (Nat.le_of_ble_eq_true rfl) (by omega) (by omega) (by omega) ?_
  intro x5 I6 h
  refine q_fstore hX dL_law_802 (by decide) (ls' := [_, _, _, _, _, _, _, _, _, _]) rfl ?_
  refine q_aload_n hX dL_law_804 rfl ?_
  refine q_V_ip hX hR (w_X9_thrown  h) lk_L_166 (rc2_of (ci := 10) rfl rfl) dL_law_805 rfl rfl (Nat.le_of_ble_eq_true rfl) (by omega) (by omega) (by omega) ?_
  intro x7 h
  refine q_iload hX dL_law_808 rfl ?_
  refine q_icmp_eq hX dL_law_810 (tgt := 815) (by decide) (fun q8 => ?_) (fun q8 => ?_)
  · replace h := ite_t q8 h
    refine q_iload hX dL_law_815 rfl ?_
    refine q_if_ne hX dL_law_817 (tgt := 853) (by decide) (fun q9 => ?_) (fun q9 => ?_)
    · replace h := ite_f q9 h
      refine q_goto hX dL_law_853 (tgt := 3520) (by decide) ?_
      exact q_dr (w_L_law_b3520 hf hX hR hN hS hE  (r28 := r28) (s28 := s28) hx28  (by omega) (by omega) _ _ _  h) ⟨Or.inl rfl, Or.inl rfl, Or.inl rfl, Or.inl rfl, Or.inl rfl, Or.inl rfl, Or.inr rfl, Or.inr rfl, Or.inl rfl, Or.inl rfl, trivial⟩
    · replace h := ite_t q9 h
      refine q_aload hX dL_law_820 rfl ?_
      refine q_iconst hX dL_law_822 (v := (nI 0)) (by decide) ?_
      refine q_dald hX dL_law_823 ?_
      refine q_fload hX dL_law_824 rfl ?_
      obtain ⟨z10, h⟩ := h
      refine q_f2d hX dL_law_826 z10 ?_
      refine q_dcmp hX dL_law_827 ?_
      refine q_if_eq hX dL_law_828 (tgt := 853) (by decide) (fun q11 => ?_) (fun q11 => ?_)
      · replace h := ite_t q11 h
        refine q_goto hX dL_law_853 (tgt := 3520) (by decide) ?_
        exact q_dr (w_L_law_b3520 hf hX hR hN hS hE  (r28 := r28) (s28 := s28) hx28  (by omega) (by omega) _ _ _  h) ⟨Or.inl rfl, Or.inl rfl, Or.inl rfl, Or.inl rfl, Or.inl rfl, Or.inl rfl, Or.inr rfl, Or.inr rfl, Or.inl rfl, Or.inl rfl, trivial⟩
      · replace h := ite_f q11 h
        refine q_aload hX dL_law_831 rfl ?_
        refine q_iconst hX dL_law_833 (v := (nI 0)) (by decide) ?_
        refine q_dald hX dL_law_834 ?_
        refine q_aload hX dL_law_835 rfl ?_
        refine q_iconst hX dL_law_837 (v := (nI 0)) (by decide) ?_
        refine q_dald hX dL_law_838 ?_
        refine q_dcmp hX dL_law_839 ?_
        refine q_if_eq hX dL_law_840 (tgt := 851) (by decide) (fun q12 => ?_) (fun q12 => ?_)
        · replace h := ite_t q12 h
          refine q_iconst hX dL_law_851 (v := (nI 0)) (by decide) ?_
          exact hE dL_law_852 (by omega) (by omega) h
        · replace h := ite_f q12 h
          refine q_fload hX dL_law_843 rfl ?_
          refine q_fload hX dL_law_845 rfl ?_
          refine q_fcmp hX dL_law_847 ?_
          refine q_if_ne hX dL_law_848 (tgt := 853) (by decide) (fun q13 => ?_) (fun q13 => ?_)
          · replace h := ite_f q13 h
            refine q_goto hX dL_law_853 (tgt := 3520) (by decide) ?_
            exact q_dr (w_L_law_b3520 hf hX hR hN hS hE  (r28 := r28) (s28 := s28) hx28  (by omega) (by omega) _ _ _  h) ⟨Or.inl rfl, Or.inl rfl, Or.inl rfl, Or.inl rfl, Or.inl rfl, Or.inl rfl, Or.inr rfl, Or.inr rfl, Or.inl rfl, Or.inl rfl, trivial⟩
          · replace h := ite_t q13 h
            refine q_iconst hX dL_law_851 (v := (nI 0)) (by decide) ?_
            exact hE dL_law_852 (by omega) (by omega) h
  · replace h := ite_f q8 h
    refine q_iconst hX dL_law_813 (v := (nI 0)) (by decide) ?_
    exact hE dL_law_814 (by omega) (by omega) h
set_option maxRecDepth 100000 in
set_option maxHeartbeats 4000000 in
theorem w_L_law_b856 {X : XT} {D : DT} {l : Launch} {xs : Nat → Int32} {nn : Nat} {K : Int32 → IT → LT → Prop} {X28 : Int32 → IT → LT → Prop} (hf : l.stackTraces = false) (hX : OK X D cL_law "TeaHouseLaw" 10) (hR : Room2 X l D 17 603072 7223402) (hN : NCX X) (hS : ScrAt X D nn xs) (hE : EndAt X D K 603072 7223402) {r28 s28 : Nat} (hx28 : ∀ {c w : Nat}, c + r28 ≤ 603072 → w + s28 ≤ 7223402 → ∀ (v5 : Int32) (I : IT) (L : LT), X28 v5 I L → J2 X D 10 c w I L 28 [.ref 1000300, .ref 0, .ref 190, .ref 195, .ref 196, .int v5, .retAddr 0, .retAddr 0, .retAddr 0, .retAddr 0] []) : ∀ {c w : Nat}, c + (1 + r28) ≤ 603072 → w + (6 + s28) ≤ 7223402 → ∀ (v5 : Int32) (I : IT) (L : LT), f_L_law_b856 xs nn X28 K v5 I L → J2 X D 10 c w I L 856 [.ref 1000300, .ref 0, .ref 190, .ref 195, .ref 196, .int v5, .retAddr 0, .retAddr 0, .retAddr 0, .retAddr 0] [] := by
  intro c w hc hw v5 I L h
  rw [f_L_law_b856] at h
  refine q_aload_n hX dL_law_856 rfl ?_
  refine q_aload_n hX dL_law_857 rfl ?_
  refine q_iload hX dL_law_858 rfl ?_
  refine q_iconst hX dL_law_860 (v := (nI 1)) (by decide) ?_
  refine q_iadd hX dL_law_861 ?_
  obtain ⟨z1, h⟩ := h
  refine q_sld hX hS dL_law_862 z1 ?_
  refine q_aload hX dL_law_863 rfl ?_
  refine q_SW hX hR hN (w_L_setCupPrice hf  h) lk_LW_195 dL_law_865 rfl rfl (Nat.le_of_ble_eq_true rfl) (by omega) (by omega) (by omega) ?_
  intro x2 I3 L4 h
  refine q_istore hX dL_law_868 (by decide) (ls' := [_, _, _, _, _, _, _, _, _, _]) rfl ?_
  refine q_aload_n hX dL_law_870 rfl ?_
  refine q_aload_n hX dL_law_871 rfl ?_
  refine q_iload hX dL_law_872 rfl ?_
  refine q_iconst hX dL_law_874 (v := (nI 1)) (by decide) ?_
  refine q_iadd hX dL_law_875 ?_
  refine q_sld hX hS dL_law_876 z1 ?_
  refine q_V_f hX hR (w_X9_setCupPrice  h) lk_L_197 (rc2_of (ci := 10) rfl rfl) dL_law_877 rfl rfl (Nat.le_of_ble_eq_true rfl) (by omega) (by omega) (by omega) ?_
  intro x5 I6 h
  refine q_fstore hX dL_law_880 (by decide) (ls' := [_, _, _, _, _, _, _, _, _, _]) rfl ?_
  refine q_aload_n hX dL_law_882 rfl ?_
  refine q_V_ip hX hR (w_X9_thrown  h) lk_L_166 (rc2_of (ci := 10) rfl rfl) dL_law_883 rfl rfl (Nat.le_of_ble_eq_true rfl) (by omega) (by omega) (by omega) ?_
  intro x7 h
  refine q_iload hX dL_law_886 rfl ?_
  refine q_icmp_eq hX dL_law_888 (tgt := 893) (by decide) (fun q8 => ?_) (fun q8 => ?_)
  · replace h := ite_t q8 h
    refine q_iload hX dL_law_893 rfl ?_
    refine q_if_ne hX dL_law_895 (tgt := 931) (by decide) (fun q9 => ?_) (fun q9 => ?_)
    · replace h := ite_f q9 h
      refine q_goto hX dL_law_931 (tgt := 3520) (by decide) ?_
      exact q_dr (w_L_law_b3520 hf hX hR hN hS hE  (r28 := r28) (s28 := s28) hx28  (by omega) (by omega) _ _ _  h) ⟨Or.inl rfl, Or.inl rfl, Or.inl rfl, Or.inl rfl, Or.inl rfl, Or.inl rfl, Or.inr rfl, Or.inr rfl, Or.inl rfl, Or.inl rfl, trivial⟩
    · replace h := ite_t q9 h
      refine q_aload hX dL_law_898 rfl ?_
      refine q_iconst hX dL_law_900 (v := (nI 0)) (by decide) ?_
      refine q_dald hX dL_law_901 ?_
      refine q_fload hX dL_law_902 rfl ?_
      obtain ⟨z10, h⟩ := h
      refine q_f2d hX dL_law_904 z10 ?_
      refine q_dcmp hX dL_law_905 ?_
      refine q_if_eq hX dL_law_906 (tgt := 931) (by decide) (fun q11 => ?_) (fun q11 => ?_)
      · replace h := ite_t q11 h
        refine q_goto hX dL_law_931 (tgt := 3520) (by decide) ?_
        exact q_dr (w_L_law_b3520 hf hX hR hN hS hE  (r28 := r28) (s28 := s28) hx28  (by omega) (by omega) _ _ _  h) ⟨Or.inl rfl, Or.inl rfl, Or.inl rfl, Or.inl rfl, Or.inl rfl, Or.inl rfl, Or.inr rfl, Or.inr rfl, Or.inl rfl, Or.inl rfl, trivial⟩
      · replace h := ite_f q11 h
        refine q_aload hX dL_law_909 rfl ?_
        refine q_iconst hX dL_law_911 (v := (nI 0)) (by decide) ?_
        refine q_dald hX dL_law_912 ?_
        refine q_aload hX dL_law_913 rfl ?_
        refine q_iconst hX dL_law_915 (v := (nI 0)) (by decide) ?_
        refine q_dald hX dL_law_916 ?_
        refine q_dcmp hX dL_law_917 ?_
        refine q_if_eq hX dL_law_918 (tgt := 929) (by decide) (fun q12 => ?_) (fun q12 => ?_)
        · replace h := ite_t q12 h
          refine q_iconst hX dL_law_929 (v := (nI 0)) (by decide) ?_
          exact hE dL_law_930 (by omega) (by omega) h
        · replace h := ite_f q12 h
          refine q_fload hX dL_law_921 rfl ?_
          refine q_fload hX dL_law_923 rfl ?_
          refine q_fcmp hX dL_law_925 ?_
          refine q_if_ne hX dL_law_926 (tgt := 931) (by decide) (fun q13 => ?_) (fun q13 => ?_)
          · replace h := ite_f q13 h
            refine q_goto hX dL_law_931 (tgt := 3520) (by decide) ?_
            exact q_dr (w_L_law_b3520 hf hX hR hN hS hE  (r28 := r28) (s28 := s28) hx28  (by omega) (by omega) _ _ _  h) ⟨Or.inl rfl, Or.inl rfl, Or.inl rfl, Or.inl rfl, Or.inl rfl, Or.inl rfl, Or.inr rfl, Or.inr rfl, Or.inl rfl, Or.inl rfl, trivial⟩
          · replace h := ite_t q13 h
            refine q_iconst hX dL_law_929 (v := (nI 0)) (by decide) ?_
            exact hE dL_law_930 (by omega) (by omega) h
  · replace h := ite_f q8 h
    refine q_iconst hX dL_law_891 (v := (nI 0)) (by decide) ?_
    exact hE dL_law_892 (by omega) (by omega) h
set_option maxRecDepth 100000 in
set_option maxHeartbeats 4000000 in
theorem w_L_law_b934 {X : XT} {D : DT} {l : Launch} {xs : Nat → Int32} {nn : Nat} {K : Int32 → IT → LT → Prop} {X28 : Int32 → IT → LT → Prop} (hf : l.stackTraces = false) (hX : OK X D cL_law "TeaHouseLaw" 10) (hR : Room2 X l D 17 603072 7223402) (hN : NCX X) (hS : ScrAt X D nn xs) (hE : EndAt X D K 603072 7223402) {r28 s28 : Nat} (hx28 : ∀ {c w : Nat}, c + r28 ≤ 603072 → w + s28 ≤ 7223402 → ∀ (v5 : Int32) (I : IT) (L : LT), X28 v5 I L → J2 X D 10 c w I L 28 [.ref 1000300, .ref 0, .ref 190, .ref 195, .ref 196, .int v5, .retAddr 0, .retAddr 0, .retAddr 0, .retAddr 0] []) : ∀ {c w : Nat}, c + (1 + r28) ≤ 603072 → w + (6 + s28) ≤ 7223402 → ∀ (v5 : Int32) (I : IT) (L : LT), f_L_law_b934 xs nn X28 K v5 I L → J2 X D 10 c w I L 934 [.ref 1000300, .ref 0, .ref 190, .ref 195, .ref 196, .int v5, .retAddr 0, .retAddr 0, .retAddr 0, .retAddr 0] [] := by
  intro c w hc hw v5 I L h
  rw [f_L_law_b934] at h
  refine q_aload_n hX dL_law_934 rfl ?_
  refine q_aload_n hX dL_law_935 rfl ?_
  refine q_iload hX dL_law_936 rfl ?_
  refine q_iconst hX dL_law_938 (v := (nI 1)) (by decide) ?_
  refine q_iadd hX dL_law_939 ?_
  obtain ⟨z1, h⟩ := h
  refine q_sld hX hS dL_law_940 z1 ?_
  refine q_aload hX dL_law_941 rfl ?_
  refine q_SW hX hR hN (w_L_setSteamPrice hf  h) lk_LW_198 dL_law_943 rfl rfl (Nat.le_of_ble_eq_true rfl) (by omega) (by omega) (by omega) ?_
  intro x2 I3 L4 h
  refine q_istore hX dL_law_946 (by decide) (ls' := [_, _, _, _, _, _, _, _, _, _]) rfl ?_
  refine q_aload_n hX dL_law_948 rfl ?_
  refine q_aload_n hX dL_law_949 rfl ?_
  refine q_iload hX dL_law_950 rfl ?_
  refine q_iconst hX dL_law_952 (v := (nI 1)) (by decide) ?_
  refine q_iadd hX dL_law_953 ?_
  refine q_sld hX hS dL_law_954 z1 ?_
  refine q_V_f hX hR (w_X9_setSteamPrice  h) lk_L_200 (rc2_of (ci := 10) rfl rfl) dL_law_955 rfl rfl (Nat.le_of_ble_eq_true rfl) (by omega) (by omega) (by omega) ?_
  intro x5 I6 h
  refine q_fstore hX dL_law_958 (by decide) (ls' := [_, _, _, _, _, _, _, _, _, _]) rfl ?_
  refine q_aload_n hX dL_law_960 rfl ?_
  refine q_V_ip hX hR (w_X9_thrown  h) lk_L_166 (rc2_of (ci := 10) rfl rfl) dL_law_961 rfl rfl (Nat.le_of_ble_eq_true rfl) (by omega) (by omega) (by omega) ?_
  intro x7 h
  refine q_iload hX dL_law_964 rfl ?_
  refine q_icmp_eq hX dL_law_966 (tgt := 971) (by decide) (fun q8 => ?_) (fun q8 => ?_)
  · replace h := ite_t q8 h
    refine q_iload hX dL_law_971 rfl ?_
    refine q_if_ne hX dL_law_973 (tgt := 1009) (by decide) (fun q9 => ?_) (fun q9 => ?_)
    · replace h := ite_f q9 h
      refine q_goto hX dL_law_1009 (tgt := 3520) (by decide) ?_
      exact q_dr (w_L_law_b3520 hf hX hR hN hS hE  (r28 := r28) (s28 := s28) hx28  (by omega) (by omega) _ _ _  h) ⟨Or.inl rfl, Or.inl rfl, Or.inl rfl, Or.inl rfl, Or.inl rfl, Or.inl rfl, Or.inr rfl, Or.inr rfl, Or.inl rfl, Or.inl rfl, trivial⟩
    · replace h := ite_t q9 h
      refine q_aload hX dL_law_976 rfl ?_
      refine q_iconst hX dL_law_978 (v := (nI 0)) (by decide) ?_
      refine q_dald hX dL_law_979 ?_
      refine q_fload hX dL_law_980 rfl ?_
      obtain ⟨z10, h⟩ := h
      refine q_f2d hX dL_law_982 z10 ?_
      refine q_dcmp hX dL_law_983 ?_
      refine q_if_eq hX dL_law_984 (tgt := 1009) (by decide) (fun q11 => ?_) (fun q11 => ?_)
      · replace h := ite_t q11 h
        refine q_goto hX dL_law_1009 (tgt := 3520) (by decide) ?_
        exact q_dr (w_L_law_b3520 hf hX hR hN hS hE  (r28 := r28) (s28 := s28) hx28  (by omega) (by omega) _ _ _  h) ⟨Or.inl rfl, Or.inl rfl, Or.inl rfl, Or.inl rfl, Or.inl rfl, Or.inl rfl, Or.inr rfl, Or.inr rfl, Or.inl rfl, Or.inl rfl, trivial⟩
      · replace h := ite_f q11 h
        refine q_aload hX dL_law_987 rfl ?_
        refine q_iconst hX dL_law_989 (v := (nI 0)) (by decide) ?_
        refine q_dald hX dL_law_990 ?_
        refine q_aload hX dL_law_991 rfl ?_
        refine q_iconst hX dL_law_993 (v := (nI 0)) (by decide) ?_
        refine q_dald hX dL_law_994 ?_
        refine q_dcmp hX dL_law_995 ?_
        refine q_if_eq hX dL_law_996 (tgt := 1007) (by decide) (fun q12 => ?_) (fun q12 => ?_)
        · replace h := ite_t q12 h
          refine q_iconst hX dL_law_1007 (v := (nI 0)) (by decide) ?_
          exact hE dL_law_1008 (by omega) (by omega) h
        · replace h := ite_f q12 h
          refine q_fload hX dL_law_999 rfl ?_
          refine q_fload hX dL_law_1001 rfl ?_
          refine q_fcmp hX dL_law_1003 ?_
          refine q_if_ne hX dL_law_1004 (tgt := 1009) (by decide) (fun q13 => ?_) (fun q13 => ?_)
          · replace h := ite_f q13 h
            refine q_goto hX dL_law_1009 (tgt := 3520) (by decide) ?_
            exact q_dr (w_L_law_b3520 hf hX hR hN hS hE  (r28 := r28) (s28 := s28) hx28  (by omega) (by omega) _ _ _  h) ⟨Or.inl rfl, Or.inl rfl, Or.inl rfl, Or.inl rfl, Or.inl rfl, Or.inl rfl, Or.inr rfl, Or.inr rfl, Or.inl rfl, Or.inl rfl, trivial⟩
          · replace h := ite_t q13 h
            refine q_iconst hX dL_law_1007 (v := (nI 0)) (by decide) ?_
            exact hE dL_law_1008 (by omega) (by omega) h
  · replace h := ite_f q8 h
    refine q_iconst hX dL_law_969 (v := (nI 0)) (by decide) ?_
    exact hE dL_law_970 (by omega) (by omega) h
set_option maxRecDepth 100000 in
set_option maxHeartbeats 4000000 in
theorem w_L_law_b1045 {X : XT} {D : DT} {l : Launch} {xs : Nat → Int32} {nn : Nat} {K : Int32 → IT → LT → Prop} {X28 : Int32 → IT → LT → Prop} (hf : l.stackTraces = false) (hX : OK X D cL_law "TeaHouseLaw" 10) (hR : Room2 X l D 17 603072 7223402) (hN : NCX X) (hS : ScrAt X D nn xs) (hE : EndAt X D K 603072 7223402) {r28 s28 : Nat} (hx28 : ∀ {c w : Nat}, c + r28 ≤ 603072 → w + s28 ≤ 7223402 → ∀ (v5 : Int32) (I : IT) (L : LT), X28 v5 I L → J2 X D 10 c w I L 28 [.ref 1000300, .ref 0, .ref 190, .ref 195, .ref 196, .int v5, .retAddr 0, .retAddr 0, .retAddr 0, .retAddr 0] []) : ∀ {c w : Nat}, c + (0 + r28) ≤ 603072 → w + (0 + s28) ≤ 7223402 → ∀ (v5 : Int32) (s0 : Int32) (s2 : Int32) (I : IT) (L : LT), isZ s0 → isZ s2 → isC s2 → f_L_law_b1045 xs nn X28 K v5 s0 s2 I L → J2 X D 10 c w I L 1045 [.ref 1000300, .ref 0, .ref 190, .ref 195, .ref 196, .int v5, .retAddr 0, .retAddr 0, .retAddr 0, .retAddr 0] [.int s2, .ref 190, .int s0] := by
  intro c w hc hw v5 s0 s2 I L hzs0 hzs2 hcs2 h
  rw [f_L_law_b1045] at h
  refine q_V_z hX hR (w_X9_setAttendant hzs2 h) lk_L_205 (rc2_of (ci := 10) rfl rfl) dL_law_1045 rfl rfl (Nat.le_of_ble_eq_true rfl) (by omega) (by omega) (by omega) ?_
  intro x1 I2 hrx1 h
  refine q_icmp_eq hX dL_law_1048 (tgt := 3520) (by decide) (fun q3 => ?_) (fun q3 => ?_)
  · replace h := ite_t q3 h
    exact q_dr (w_L_law_b3520 hf hX hR hN hS hE  (r28 := r28) (s28 := s28) hx28  (by omega) (by omega) _ _ _  h) ⟨Or.inl rfl, Or.inl rfl, Or.inl rfl, Or.inl rfl, Or.inl rfl, Or.inl rfl, Or.inl rfl, Or.inl rfl, Or.inl rfl, Or.inl rfl, trivial⟩
  · replace h := ite_f q3 h
    refine q_iconst hX dL_law_1051 (v := (nI 0)) (by decide) ?_
    exact hE dL_law_1052 (by omega) (by omega) h
set_option maxRecDepth 100000 in
set_option maxHeartbeats 4000000 in
theorem w_L_law_b1027 {X : XT} {D : DT} {l : Launch} {xs : Nat → Int32} {nn : Nat} {K : Int32 → IT → LT → Prop} {X28 : Int32 → IT → LT → Prop} (hf : l.stackTraces = false) (hX : OK X D cL_law "TeaHouseLaw" 10) (hR : Room2 X l D 17 603072 7223402) (hN : NCX X) (hS : ScrAt X D nn xs) (hE : EndAt X D K 603072 7223402) {r28 s28 : Nat} (hx28 : ∀ {c w : Nat}, c + r28 ≤ 603072 → w + s28 ≤ 7223402 → ∀ (v5 : Int32) (I : IT) (L : LT), X28 v5 I L → J2 X D 10 c w I L 28 [.ref 1000300, .ref 0, .ref 190, .ref 195, .ref 196, .int v5, .retAddr 0, .retAddr 0, .retAddr 0, .retAddr 0] []) : ∀ {c w : Nat}, c + (1 + r28) ≤ 603072 → w + (6 + s28) ≤ 7223402 → ∀ (v5 : Int32) (s1 : Int32) (I : IT) (L : LT), isZ s1 → isC s1 → f_L_law_b1027 xs nn X28 K v5 s1 I L → J2 X D 10 c w I L 1027 [.ref 1000300, .ref 0, .ref 190, .ref 195, .ref 196, .int v5, .retAddr 0, .retAddr 0, .retAddr 0, .retAddr 0] [.int s1, .ref 0] := by
  intro c w hc hw v5 s1 I L hzs1 hcs1 h
  rw [f_L_law_b1027] at h
  refine q_W_z hX hR (w_X8_setAttendant hf hzs1 h) lk_L_201 (rc2_of (ci := 9) rfl rfl) dL_law_1027 rfl rfl (Nat.le_of_ble_eq_true rfl) (by omega) (by omega) (by omega) ?_ ?_
  rotate_left
  · intro E I9_ h
    exact False.elim h
  intro x1 I2 hrx1 h
  refine q_aload_n hX dL_law_1030 rfl ?_
  refine q_aload_n hX dL_law_1031 rfl ?_
  refine q_iload hX dL_law_1032 rfl ?_
  refine q_iconst hX dL_law_1034 (v := (nI 1)) (by decide) ?_
  refine q_iadd hX dL_law_1035 ?_
  obtain ⟨z3, h⟩ := h
  refine q_sld hX hS dL_law_1036 z3 ?_
  refine q_if_eq hX dL_law_1037 (tgt := 1044) (by decide) (fun q4 => ?_) (fun q4 => ?_)
  · replace h := ite_t q4 h
    refine q_iconst hX dL_law_1044 (v := (nI 0)) (by decide) ?_
    exact q_dr (w_L_law_b1045 hf hX hR hN hS hE  (r28 := r28) (s28 := s28) hx28  (by omega) (by omega) _ _ _ _ _ hrx1 (Or.inl rfl) (isC_n (by decide)) h) ⟨Or.inl rfl, Or.inl rfl, Or.inl rfl, Or.inl rfl, Or.inl rfl, Or.inl rfl, Or.inl rfl, Or.inl rfl, Or.inl rfl, Or.inl rfl, trivial⟩
  · replace h := ite_f q4 h
    refine q_iconst hX dL_law_1040 (v := (nI 1)) (by decide) ?_
    refine q_goto hX dL_law_1041 (tgt := 1045) (by decide) ?_
    exact q_dr (w_L_law_b1045 hf hX hR hN hS hE  (r28 := r28) (s28 := s28) hx28  (by omega) (by omega) _ _ _ _ _ hrx1 (Or.inr rfl) (isC_n (by decide)) h) ⟨Or.inl rfl, Or.inl rfl, Or.inl rfl, Or.inl rfl, Or.inl rfl, Or.inl rfl, Or.inl rfl, Or.inl rfl, Or.inl rfl, Or.inl rfl, trivial⟩
set_option maxRecDepth 100000 in
set_option maxHeartbeats 4000000 in
theorem w_L_law_b1012 {X : XT} {D : DT} {l : Launch} {xs : Nat → Int32} {nn : Nat} {K : Int32 → IT → LT → Prop} {X28 : Int32 → IT → LT → Prop} (hf : l.stackTraces = false) (hX : OK X D cL_law "TeaHouseLaw" 10) (hR : Room2 X l D 17 603072 7223402) (hN : NCX X) (hS : ScrAt X D nn xs) (hE : EndAt X D K 603072 7223402) {r28 s28 : Nat} (hx28 : ∀ {c w : Nat}, c + r28 ≤ 603072 → w + s28 ≤ 7223402 → ∀ (v5 : Int32) (I : IT) (L : LT), X28 v5 I L → J2 X D 10 c w I L 28 [.ref 1000300, .ref 0, .ref 190, .ref 195, .ref 196, .int v5, .retAddr 0, .retAddr 0, .retAddr 0, .retAddr 0] []) : ∀ {c w : Nat}, c + (1 + r28) ≤ 603072 → w + (6 + s28) ≤ 7223402 → ∀ (v5 : Int32) (I : IT) (L : LT), f_L_law_b1012 xs nn X28 K v5 I L → J2 X D 10 c w I L 1012 [.ref 1000300, .ref 0, .ref 190, .ref 195, .ref 196, .int v5, .retAddr 0, .retAddr 0, .retAddr 0, .retAddr 0] [] := by
  intro c w hc hw v5 I L h
  rw [f_L_law_b1012] at h
  refine q_aload_n hX dL_law_1012 rfl ?_
  refine q_aload_n hX dL_law_1013 rfl ?_
  refine q_iload hX dL_law_1014 rfl ?_
  refine q_iconst hX dL_law_1016 (v := (nI 1)) (by decide) ?_
  refine q_iadd hX dL_law_1017 ?_
  obtain ⟨z1, h⟩ := h
  refine q_sld hX hS dL_law_1018 z1 ?_
  refine q_if_eq hX dL_law_1019 (tgt := 1026) (by decide) (fun q2 => ?_) (fun q2 => ?_)
  · replace h := ite_t q2 h
    refine q_iconst hX dL_law_1026 (v := (nI 0)) (by decide) ?_
    exact q_dr (w_L_law_b1027 hf hX hR hN hS hE  (r28 := r28) (s28 := s28) hx28  (by omega) (by omega) _ _ _ _ (Or.inl rfl) (isC_n (by decide)) h) ⟨Or.inl rfl, Or.inl rfl, Or.inl rfl, Or.inl rfl, Or.inl rfl, Or.inl rfl, Or.inl rfl, Or.inl rfl, Or.inl rfl, Or.inl rfl, trivial⟩
  · replace h := ite_f q2 h
    refine q_iconst hX dL_law_1022 (v := (nI 1)) (by decide) ?_
    refine q_goto hX dL_law_1023 (tgt := 1027) (by decide) ?_
    exact q_dr (w_L_law_b1027 hf hX hR hN hS hE  (r28 := r28) (s28 := s28) hx28  (by omega) (by omega) _ _ _ _ (Or.inr rfl) (isC_n (by decide)) h) ⟨Or.inl rfl, Or.inl rfl, Or.inl rfl, Or.inl rfl, Or.inl rfl, Or.inl rfl, Or.inl rfl, Or.inl rfl, Or.inl rfl, Or.inl rfl, trivial⟩
set_option maxRecDepth 100000 in
set_option maxHeartbeats 4000000 in
theorem w_L_law_b1053 {X : XT} {D : DT} {l : Launch} {xs : Nat → Int32} {nn : Nat} {K : Int32 → IT → LT → Prop} {X28 : Int32 → IT → LT → Prop} (hf : l.stackTraces = false) (hX : OK X D cL_law "TeaHouseLaw" 10) (hR : Room2 X l D 17 603072 7223402) (hN : NCX X) (hS : ScrAt X D nn xs) (hE : EndAt X D K 603072 7223402) {r28 s28 : Nat} (hx28 : ∀ {c w : Nat}, c + r28 ≤ 603072 → w + s28 ≤ 7223402 → ∀ (v5 : Int32) (I : IT) (L : LT), X28 v5 I L → J2 X D 10 c w I L 28 [.ref 1000300, .ref 0, .ref 190, .ref 195, .ref 196, .int v5, .retAddr 0, .retAddr 0, .retAddr 0, .retAddr 0] []) : ∀ {c w : Nat}, c + (1 + r28) ≤ 603072 → w + (6 + s28) ≤ 7223402 → ∀ (v5 : Int32) (I : IT) (L : LT), f_L_law_b1053 xs nn X28 K v5 I L → J2 X D 10 c w I L 1053 [.ref 1000300, .ref 0, .ref 190, .ref 195, .ref 196, .int v5, .retAddr 0, .retAddr 0, .retAddr 0, .retAddr 0] [] := by
  intro c w hc hw v5 I L h
  rw [f_L_law_b1053] at h
  refine q_aload_n hX dL_law_1053 rfl ?_
  refine q_aload_n hX dL_law_1054 rfl ?_
  refine q_iload hX dL_law_1055 rfl ?_
  refine q_iconst hX dL_law_1057 (v := (nI 1)) (by decide) ?_
  refine q_iadd hX dL_law_1058 ?_
  obtain ⟨z1, h⟩ := h
  refine q_sld hX hS dL_law_1059 z1 ?_
  refine q_aload_n hX dL_law_1060 rfl ?_
  refine q_SW hX hR hN (w_L_pass hf  h) lk_LW_206 dL_law_1061 rfl rfl (Nat.le_of_ble_eq_true rfl) (by omega) (by omega) (by omega) ?_
  intro x2 I3 L4 h
  refine q_istore hX dL_law_1064 (by decide) (ls' := [_, _, _, _, _, _, _, _, _, _]) rfl ?_
  refine q_aload_n hX dL_law_1066 rfl ?_
  refine q_aload_n hX dL_law_1067 rfl ?_
  refine q_iload hX dL_law_1068 rfl ?_
  refine q_iconst hX dL_law_1070 (v := (nI 1)) (by decide) ?_
  refine q_iadd hX dL_law_1071 ?_
  refine q_sld hX hS dL_law_1072 z1 ?_
  refine q_V_i hX hR (w_X9_pass  h) lk_L_208 (rc2_of (ci := 10) rfl rfl) dL_law_1073 rfl rfl (Nat.le_of_ble_eq_true rfl) (by omega) (by omega) (by omega) ?_
  intro x5 I6 h
  refine q_istore hX dL_law_1076 (by decide) (ls' := [_, _, _, _, _, _, _, _, _, _]) rfl ?_
  refine q_aload_n hX dL_law_1078 rfl ?_
  refine q_V_ip hX hR (w_X9_thrown  h) lk_L_166 (rc2_of (ci := 10) rfl rfl) dL_law_1079 rfl rfl (Nat.le_of_ble_eq_true rfl) (by omega) (by omega) (by omega) ?_
  intro x7 h
  refine q_iload hX dL_law_1082 rfl ?_
  refine q_icmp_eq hX dL_law_1084 (tgt := 1089) (by decide) (fun q8 => ?_) (fun q8 => ?_)
  · replace h := ite_t q8 h
    refine q_iload hX dL_law_1089 rfl ?_
    refine q_if_ne hX dL_law_1091 (tgt := 1106) (by decide) (fun q9 => ?_) (fun q9 => ?_)
    · replace h := ite_f q9 h
      refine q_goto hX dL_law_1106 (tgt := 3520) (by decide) ?_
      exact q_dr (w_L_law_b3520 hf hX hR hN hS hE  (r28 := r28) (s28 := s28) hx28  (by omega) (by omega) _ _ _  h) ⟨Or.inl rfl, Or.inl rfl, Or.inl rfl, Or.inl rfl, Or.inl rfl, Or.inl rfl, Or.inr rfl, Or.inr rfl, Or.inl rfl, Or.inl rfl, trivial⟩
    · replace h := ite_t q9 h
      refine q_aload_n hX dL_law_1094 rfl ?_
      refine q_iconst hX dL_law_1095 (v := (nI 0)) (by decide) ?_
      refine q_lald hX dL_law_1096 ?_
      refine q_iload hX dL_law_1097 rfl ?_
      refine q_i2l hX dL_law_1099 rfl ?_
      refine q_lcmp hX dL_law_1100 ?_
      refine q_if_eq hX dL_law_1101 (tgt := 1106) (by decide) (fun q10 => ?_) (fun q10 => ?_)
      · replace h := ite_t q10 h
        refine q_goto hX dL_law_1106 (tgt := 3520) (by decide) ?_
        exact q_dr (w_L_law_b3520 hf hX hR hN hS hE  (r28 := r28) (s28 := s28) hx28  (by omega) (by omega) _ _ _  h) ⟨Or.inl rfl, Or.inl rfl, Or.inl rfl, Or.inl rfl, Or.inl rfl, Or.inl rfl, Or.inr rfl, Or.inr rfl, Or.inl rfl, Or.inl rfl, trivial⟩
      · replace h := ite_f q10 h
        refine q_iconst hX dL_law_1104 (v := (nI 0)) (by decide) ?_
        exact hE dL_law_1105 (by omega) (by omega) h
  · replace h := ite_f q8 h
    refine q_iconst hX dL_law_1087 (v := (nI 0)) (by decide) ?_
    exact hE dL_law_1088 (by omega) (by omega) h
set_option maxRecDepth 100000 in
set_option maxHeartbeats 4000000 in
theorem w_L_law_b1109 {X : XT} {D : DT} {l : Launch} {xs : Nat → Int32} {nn : Nat} {K : Int32 → IT → LT → Prop} {X28 : Int32 → IT → LT → Prop} (hf : l.stackTraces = false) (hX : OK X D cL_law "TeaHouseLaw" 10) (hR : Room2 X l D 17 603072 7223402) (hN : NCX X) (hS : ScrAt X D nn xs) (hE : EndAt X D K 603072 7223402) {r28 s28 : Nat} (hx28 : ∀ {c w : Nat}, c + r28 ≤ 603072 → w + s28 ≤ 7223402 → ∀ (v5 : Int32) (I : IT) (L : LT), X28 v5 I L → J2 X D 10 c w I L 28 [.ref 1000300, .ref 0, .ref 190, .ref 195, .ref 196, .int v5, .retAddr 0, .retAddr 0, .retAddr 0, .retAddr 0] []) : ∀ {c w : Nat}, c + (1 + r28) ≤ 603072 → w + (6 + s28) ≤ 7223402 → ∀ (v5 : Int32) (I : IT) (L : LT), f_L_law_b1109 xs nn X28 K v5 I L → J2 X D 10 c w I L 1109 [.ref 1000300, .ref 0, .ref 190, .ref 195, .ref 196, .int v5, .retAddr 0, .retAddr 0, .retAddr 0, .retAddr 0] [] := by
  intro c w hc hw v5 I L h
  rw [f_L_law_b1109] at h
  refine q_aload_n hX dL_law_1109 rfl ?_
  refine q_aload hX dL_law_1110 rfl ?_
  refine q_SW hX hR hN (w_L_closeNight hf  h) lk_LW_209 dL_law_1112 rfl rfl (Nat.le_of_ble_eq_true rfl) (by omega) (by omega) (by omega) ?_
  intro x1 I2 L3 h
  refine q_istore hX dL_law_1115 (by decide) (ls' := [_, _, _, _, _, _, _, _, _, _]) rfl ?_
  refine q_aload_n hX dL_law_1117 rfl ?_
  refine q_V_f hX hR (w_X9_closeNight  h) lk_L_212 (rc2_of (ci := 10) rfl rfl) dL_law_1118 rfl rfl (Nat.le_of_ble_eq_true rfl) (by omega) (by omega) (by omega) ?_
  intro x4 I5 h
  refine q_fstore hX dL_law_1121 (by decide) (ls' := [_, _, _, _, _, _, _, _, _, _]) rfl ?_
  refine q_aload_n hX dL_law_1123 rfl ?_
  refine q_V_ip hX hR (w_X9_thrown  h) lk_L_166 (rc2_of (ci := 10) rfl rfl) dL_law_1124 rfl rfl (Nat.le_of_ble_eq_true rfl) (by omega) (by omega) (by omega) ?_
  intro x6 h
  refine q_iload hX dL_law_1127 rfl ?_
  refine q_icmp_eq hX dL_law_1129 (tgt := 1134) (by decide) (fun q7 => ?_) (fun q7 => ?_)
  · replace h := ite_t q7 h
    refine q_iload hX dL_law_1134 rfl ?_
    refine q_if_ne hX dL_law_1136 (tgt := 1172) (by decide) (fun q8 => ?_) (fun q8 => ?_)
    · replace h := ite_f q8 h
      refine q_goto hX dL_law_1172 (tgt := 3520) (by decide) ?_
      exact q_dr (w_L_law_b3520 hf hX hR hN hS hE  (r28 := r28) (s28 := s28) hx28  (by omega) (by omega) _ _ _  h) ⟨Or.inl rfl, Or.inl rfl, Or.inl rfl, Or.inl rfl, Or.inl rfl, Or.inl rfl, Or.inr rfl, Or.inr rfl, Or.inl rfl, Or.inl rfl, trivial⟩
    · replace h := ite_t q8 h
      refine q_aload hX dL_law_1139 rfl ?_
      refine q_iconst hX dL_law_1141 (v := (nI 0)) (by decide) ?_
      refine q_dald hX dL_law_1142 ?_
      refine q_fload hX dL_law_1143 rfl ?_
      obtain ⟨z9, h⟩ := h
      refine q_f2d hX dL_law_1145 z9 ?_
      refine q_dcmp hX dL_law_1146 ?_
      refine q_if_eq hX dL_law_1147 (tgt := 1172) (by decide) (fun q10 => ?_) (fun q10 => ?_)
      · replace h := ite_t q10 h
        refine q_goto hX dL_law_1172 (tgt := 3520) (by decide) ?_
        exact q_dr (w_L_law_b3520 hf hX hR hN hS hE  (r28 := r28) (s28 := s28) hx28  (by omega) (by omega) _ _ _  h) ⟨Or.inl rfl, Or.inl rfl, Or.inl rfl, Or.inl rfl, Or.inl rfl, Or.inl rfl, Or.inr rfl, Or.inr rfl, Or.inl rfl, Or.inl rfl, trivial⟩
      · replace h := ite_f q10 h
        refine q_aload hX dL_law_1150 rfl ?_
        refine q_iconst hX dL_law_1152 (v := (nI 0)) (by decide) ?_
        refine q_dald hX dL_law_1153 ?_
        refine q_aload hX dL_law_1154 rfl ?_
        refine q_iconst hX dL_law_1156 (v := (nI 0)) (by decide) ?_
        refine q_dald hX dL_law_1157 ?_
        refine q_dcmp hX dL_law_1158 ?_
        refine q_if_eq hX dL_law_1159 (tgt := 1170) (by decide) (fun q11 => ?_) (fun q11 => ?_)
        · replace h := ite_t q11 h
          refine q_iconst hX dL_law_1170 (v := (nI 0)) (by decide) ?_
          exact hE dL_law_1171 (by omega) (by omega) h
        · replace h := ite_f q11 h
          refine q_fload hX dL_law_1162 rfl ?_
          refine q_fload hX dL_law_1164 rfl ?_
          refine q_fcmp hX dL_law_1166 ?_
          refine q_if_ne hX dL_law_1167 (tgt := 1172) (by decide) (fun q12 => ?_) (fun q12 => ?_)
          · replace h := ite_f q12 h
            refine q_goto hX dL_law_1172 (tgt := 3520) (by decide) ?_
            exact q_dr (w_L_law_b3520 hf hX hR hN hS hE  (r28 := r28) (s28 := s28) hx28  (by omega) (by omega) _ _ _  h) ⟨Or.inl rfl, Or.inl rfl, Or.inl rfl, Or.inl rfl, Or.inl rfl, Or.inl rfl, Or.inr rfl, Or.inr rfl, Or.inl rfl, Or.inl rfl, trivial⟩
          · replace h := ite_t q12 h
            refine q_iconst hX dL_law_1170 (v := (nI 0)) (by decide) ?_
            exact hE dL_law_1171 (by omega) (by omega) h
  · replace h := ite_f q7 h
    refine q_iconst hX dL_law_1132 (v := (nI 0)) (by decide) ?_
    exact hE dL_law_1133 (by omega) (by omega) h
set_option maxRecDepth 100000 in
set_option maxHeartbeats 4000000 in
theorem w_L_law_b1175 {X : XT} {D : DT} {l : Launch} {xs : Nat → Int32} {nn : Nat} {K : Int32 → IT → LT → Prop} {X28 : Int32 → IT → LT → Prop} (hf : l.stackTraces = false) (hX : OK X D cL_law "TeaHouseLaw" 10) (hR : Room2 X l D 17 603072 7223402) (hN : NCX X) (hS : ScrAt X D nn xs) (hE : EndAt X D K 603072 7223402) {r28 s28 : Nat} (hx28 : ∀ {c w : Nat}, c + r28 ≤ 603072 → w + s28 ≤ 7223402 → ∀ (v5 : Int32) (I : IT) (L : LT), X28 v5 I L → J2 X D 10 c w I L 28 [.ref 1000300, .ref 0, .ref 190, .ref 195, .ref 196, .int v5, .retAddr 0, .retAddr 0, .retAddr 0, .retAddr 0] []) : ∀ {c w : Nat}, c + (0 + r28) ≤ 603072 → w + (0 + s28) ≤ 7223402 → ∀ (v5 : Int32) (I : IT) (L : LT), f_L_law_b1175 xs nn X28 K v5 I L → J2 X D 10 c w I L 1175 [.ref 1000300, .ref 0, .ref 190, .ref 195, .ref 196, .int v5, .retAddr 0, .retAddr 0, .retAddr 0, .retAddr 0] [] := by
  intro c w hc hw v5 I L h
  rw [f_L_law_b1175] at h
  refine q_aload_n hX dL_law_1175 rfl ?_
  refine q_V_ip hX hR (w_X8_kettleCount  h) lk_L_213 (rc2_of (ci := 9) rfl rfl) dL_law_1176 rfl rfl (Nat.le_of_ble_eq_true rfl) (by omega) (by omega) (by omega) ?_
  intro x1 h
  refine q_aload_n hX dL_law_1179 rfl ?_
  refine q_V_i hX hR (w_X9_kettleCount  h) lk_L_216 (rc2_of (ci := 10) rfl rfl) dL_law_1180 rfl rfl (Nat.le_of_ble_eq_true rfl) (by omega) (by omega) (by omega) ?_
  intro x2 I3 h
  refine q_icmp_eq hX dL_law_1183 (tgt := 3520) (by decide) (fun q4 => ?_) (fun q4 => ?_)
  · replace h := ite_t q4 h
    exact q_dr (w_L_law_b3520 hf hX hR hN hS hE  (r28 := r28) (s28 := s28) hx28  (by omega) (by omega) _ _ _  h) ⟨Or.inl rfl, Or.inl rfl, Or.inl rfl, Or.inl rfl, Or.inl rfl, Or.inl rfl, Or.inl rfl, Or.inl rfl, Or.inl rfl, Or.inl rfl, trivial⟩
  · replace h := ite_f q4 h
    refine q_iconst hX dL_law_1186 (v := (nI 0)) (by decide) ?_
    exact hE dL_law_1187 (by omega) (by omega) h
set_option maxRecDepth 100000 in
set_option maxHeartbeats 4000000 in
theorem w_L_law_b1188 {X : XT} {D : DT} {l : Launch} {xs : Nat → Int32} {nn : Nat} {K : Int32 → IT → LT → Prop} {X28 : Int32 → IT → LT → Prop} (hf : l.stackTraces = false) (hX : OK X D cL_law "TeaHouseLaw" 10) (hR : Room2 X l D 17 603072 7223402) (hN : NCX X) (hS : ScrAt X D nn xs) (hE : EndAt X D K 603072 7223402) {r28 s28 : Nat} (hx28 : ∀ {c w : Nat}, c + r28 ≤ 603072 → w + s28 ≤ 7223402 → ∀ (v5 : Int32) (I : IT) (L : LT), X28 v5 I L → J2 X D 10 c w I L 28 [.ref 1000300, .ref 0, .ref 190, .ref 195, .ref 196, .int v5, .retAddr 0, .retAddr 0, .retAddr 0, .retAddr 0] []) : ∀ {c w : Nat}, c + (1 + r28) ≤ 603072 → w + (6 + s28) ≤ 7223402 → ∀ (v5 : Int32) (I : IT) (L : LT), f_L_law_b1188 xs nn X28 K v5 I L → J2 X D 10 c w I L 1188 [.ref 1000300, .ref 0, .ref 190, .ref 195, .ref 196, .int v5, .retAddr 0, .retAddr 0, .retAddr 0, .retAddr 0] [] := by
  intro c w hc hw v5 I L h
  rw [f_L_law_b1188] at h
  refine q_aload_n hX dL_law_1188 rfl ?_
  refine q_aload_n hX dL_law_1189 rfl ?_
  refine q_iload hX dL_law_1190 rfl ?_
  refine q_iconst hX dL_law_1192 (v := (nI 1)) (by decide) ?_
  refine q_iadd hX dL_law_1193 ?_
  obtain ⟨z1, h⟩ := h
  refine q_sld hX hS dL_law_1194 z1 ?_
  refine q_aload hX dL_law_1195 rfl ?_
  refine q_SW hX hR hN (w_L_capacity hf  h) lk_LW_217 dL_law_1197 rfl rfl (Nat.le_of_ble_eq_true rfl) (by omega) (by omega) (by omega) ?_
  intro x2 I3 L4 h
  refine q_istore hX dL_law_1200 (by decide) (ls' := [_, _, _, _, _, _, _, _, _, _]) rfl ?_
  refine q_aload_n hX dL_law_1202 rfl ?_
  refine q_aload_n hX dL_law_1203 rfl ?_
  refine q_iload hX dL_law_1204 rfl ?_
  refine q_iconst hX dL_law_1206 (v := (nI 1)) (by decide) ?_
  refine q_iadd hX dL_law_1207 ?_
  refine q_sld hX hS dL_law_1208 z1 ?_
  refine q_V_f hX hR (w_X9_capacity  h) lk_L_219 (rc2_of (ci := 10) rfl rfl) dL_law_1209 rfl rfl (Nat.le_of_ble_eq_true rfl) (by omega) (by omega) (by omega) ?_
  intro x5 I6 h
  refine q_fstore hX dL_law_1212 (by decide) (ls' := [_, _, _, _, _, _, _, _, _, _]) rfl ?_
  refine q_aload_n hX dL_law_1214 rfl ?_
  refine q_V_ip hX hR (w_X9_thrown  h) lk_L_166 (rc2_of (ci := 10) rfl rfl) dL_law_1215 rfl rfl (Nat.le_of_ble_eq_true rfl) (by omega) (by omega) (by omega) ?_
  intro x7 h
  refine q_iload hX dL_law_1218 rfl ?_
  refine q_icmp_eq hX dL_law_1220 (tgt := 1225) (by decide) (fun q8 => ?_) (fun q8 => ?_)
  · replace h := ite_t q8 h
    refine q_iload hX dL_law_1225 rfl ?_
    refine q_if_ne hX dL_law_1227 (tgt := 1263) (by decide) (fun q9 => ?_) (fun q9 => ?_)
    · replace h := ite_f q9 h
      refine q_goto hX dL_law_1263 (tgt := 3520) (by decide) ?_
      exact q_dr (w_L_law_b3520 hf hX hR hN hS hE  (r28 := r28) (s28 := s28) hx28  (by omega) (by omega) _ _ _  h) ⟨Or.inl rfl, Or.inl rfl, Or.inl rfl, Or.inl rfl, Or.inl rfl, Or.inl rfl, Or.inr rfl, Or.inr rfl, Or.inl rfl, Or.inl rfl, trivial⟩
    · replace h := ite_t q9 h
      refine q_aload hX dL_law_1230 rfl ?_
      refine q_iconst hX dL_law_1232 (v := (nI 0)) (by decide) ?_
      refine q_dald hX dL_law_1233 ?_
      refine q_fload hX dL_law_1234 rfl ?_
      obtain ⟨z10, h⟩ := h
      refine q_f2d hX dL_law_1236 z10 ?_
      refine q_dcmp hX dL_law_1237 ?_
      refine q_if_eq hX dL_law_1238 (tgt := 1263) (by decide) (fun q11 => ?_) (fun q11 => ?_)
      · replace h := ite_t q11 h
        refine q_goto hX dL_law_1263 (tgt := 3520) (by decide) ?_
        exact q_dr (w_L_law_b3520 hf hX hR hN hS hE  (r28 := r28) (s28 := s28) hx28  (by omega) (by omega) _ _ _  h) ⟨Or.inl rfl, Or.inl rfl, Or.inl rfl, Or.inl rfl, Or.inl rfl, Or.inl rfl, Or.inr rfl, Or.inr rfl, Or.inl rfl, Or.inl rfl, trivial⟩
      · replace h := ite_f q11 h
        refine q_aload hX dL_law_1241 rfl ?_
        refine q_iconst hX dL_law_1243 (v := (nI 0)) (by decide) ?_
        refine q_dald hX dL_law_1244 ?_
        refine q_aload hX dL_law_1245 rfl ?_
        refine q_iconst hX dL_law_1247 (v := (nI 0)) (by decide) ?_
        refine q_dald hX dL_law_1248 ?_
        refine q_dcmp hX dL_law_1249 ?_
        refine q_if_eq hX dL_law_1250 (tgt := 1261) (by decide) (fun q12 => ?_) (fun q12 => ?_)
        · replace h := ite_t q12 h
          refine q_iconst hX dL_law_1261 (v := (nI 0)) (by decide) ?_
          exact hE dL_law_1262 (by omega) (by omega) h
        · replace h := ite_f q12 h
          refine q_fload hX dL_law_1253 rfl ?_
          refine q_fload hX dL_law_1255 rfl ?_
          refine q_fcmp hX dL_law_1257 ?_
          refine q_if_ne hX dL_law_1258 (tgt := 1263) (by decide) (fun q13 => ?_) (fun q13 => ?_)
          · replace h := ite_f q13 h
            refine q_goto hX dL_law_1263 (tgt := 3520) (by decide) ?_
            exact q_dr (w_L_law_b3520 hf hX hR hN hS hE  (r28 := r28) (s28 := s28) hx28  (by omega) (by omega) _ _ _  h) ⟨Or.inl rfl, Or.inl rfl, Or.inl rfl, Or.inl rfl, Or.inl rfl, Or.inl rfl, Or.inr rfl, Or.inr rfl, Or.inl rfl, Or.inl rfl, trivial⟩
          · replace h := ite_t q13 h
            refine q_iconst hX dL_law_1261 (v := (nI 0)) (by decide) ?_
            exact hE dL_law_1262 (by omega) (by omega) h
  · replace h := ite_f q8 h
    refine q_iconst hX dL_law_1223 (v := (nI 0)) (by decide) ?_
    exact hE dL_law_1224 (by omega) (by omega) h
set_option maxRecDepth 100000 in
set_option maxHeartbeats 4000000 in
theorem w_L_law_b1266 {X : XT} {D : DT} {l : Launch} {xs : Nat → Int32} {nn : Nat} {K : Int32 → IT → LT → Prop} {X28 : Int32 → IT → LT → Prop} (hf : l.stackTraces = false) (hX : OK X D cL_law "TeaHouseLaw" 10) (hR : Room2 X l D 17 603072 7223402) (hN : NCX X) (hS : ScrAt X D nn xs) (hE : EndAt X D K 603072 7223402) {r28 s28 : Nat} (hx28 : ∀ {c w : Nat}, c + r28 ≤ 603072 → w + s28 ≤ 7223402 → ∀ (v5 : Int32) (I : IT) (L : LT), X28 v5 I L → J2 X D 10 c w I L 28 [.ref 1000300, .ref 0, .ref 190, .ref 195, .ref 196, .int v5, .retAddr 0, .retAddr 0, .retAddr 0, .retAddr 0] []) : ∀ {c w : Nat}, c + (1 + r28) ≤ 603072 → w + (6 + s28) ≤ 7223402 → ∀ (v5 : Int32) (I : IT) (L : LT), f_L_law_b1266 xs nn X28 K v5 I L → J2 X D 10 c w I L 1266 [.ref 1000300, .ref 0, .ref 190, .ref 195, .ref 196, .int v5, .retAddr 0, .retAddr 0, .retAddr 0, .retAddr 0] [] := by
  intro c w hc hw v5 I L h
  rw [f_L_law_b1266] at h
  refine q_aload_n hX dL_law_1266 rfl ?_
  refine q_aload_n hX dL_law_1267 rfl ?_
  refine q_iload hX dL_law_1268 rfl ?_
  refine q_iconst hX dL_law_1270 (v := (nI 1)) (by decide) ?_
  refine q_iadd hX dL_law_1271 ?_
  obtain ⟨z1, h⟩ := h
  refine q_sld hX hS dL_law_1272 z1 ?_
  refine q_aload hX dL_law_1273 rfl ?_
  refine q_SW hX hR hN (w_L_volume hf  h) lk_LW_220 dL_law_1275 rfl rfl (Nat.le_of_ble_eq_true rfl) (by omega) (by omega) (by omega) ?_
  intro x2 I3 L4 h
  refine q_istore hX dL_law_1278 (by decide) (ls' := [_, _, _, _, _, _, _, _, _, _]) rfl ?_
  refine q_aload_n hX dL_law_1280 rfl ?_
  refine q_aload_n hX dL_law_1281 rfl ?_
  refine q_iload hX dL_law_1282 rfl ?_
  refine q_iconst hX dL_law_1284 (v := (nI 1)) (by decide) ?_
  refine q_iadd hX dL_law_1285 ?_
  refine q_sld hX hS dL_law_1286 z1 ?_
  refine q_V_f hX hR (w_X9_volume  h) lk_L_222 (rc2_of (ci := 10) rfl rfl) dL_law_1287 rfl rfl (Nat.le_of_ble_eq_true rfl) (by omega) (by omega) (by omega) ?_
  intro x5 I6 h
  refine q_fstore hX dL_law_1290 (by decide) (ls' := [_, _, _, _, _, _, _, _, _, _]) rfl ?_
  refine q_aload_n hX dL_law_1292 rfl ?_
  refine q_V_ip hX hR (w_X9_thrown  h) lk_L_166 (rc2_of (ci := 10) rfl rfl) dL_law_1293 rfl rfl (Nat.le_of_ble_eq_true rfl) (by omega) (by omega) (by omega) ?_
  intro x7 h
  refine q_iload hX dL_law_1296 rfl ?_
  refine q_icmp_eq hX dL_law_1298 (tgt := 1303) (by decide) (fun q8 => ?_) (fun q8 => ?_)
  · replace h := ite_t q8 h
    refine q_iload hX dL_law_1303 rfl ?_
    refine q_if_ne hX dL_law_1305 (tgt := 1341) (by decide) (fun q9 => ?_) (fun q9 => ?_)
    · replace h := ite_f q9 h
      refine q_goto hX dL_law_1341 (tgt := 3520) (by decide) ?_
      exact q_dr (w_L_law_b3520 hf hX hR hN hS hE  (r28 := r28) (s28 := s28) hx28  (by omega) (by omega) _ _ _  h) ⟨Or.inl rfl, Or.inl rfl, Or.inl rfl, Or.inl rfl, Or.inl rfl, Or.inl rfl, Or.inr rfl, Or.inr rfl, Or.inl rfl, Or.inl rfl, trivial⟩
    · replace h := ite_t q9 h
      refine q_aload hX dL_law_1308 rfl ?_
      refine q_iconst hX dL_law_1310 (v := (nI 0)) (by decide) ?_
      refine q_dald hX dL_law_1311 ?_
      refine q_fload hX dL_law_1312 rfl ?_
      obtain ⟨z10, h⟩ := h
      refine q_f2d hX dL_law_1314 z10 ?_
      refine q_dcmp hX dL_law_1315 ?_
      refine q_if_eq hX dL_law_1316 (tgt := 1341) (by decide) (fun q11 => ?_) (fun q11 => ?_)
      · replace h := ite_t q11 h
        refine q_goto hX dL_law_1341 (tgt := 3520) (by decide) ?_
        exact q_dr (w_L_law_b3520 hf hX hR hN hS hE  (r28 := r28) (s28 := s28) hx28  (by omega) (by omega) _ _ _  h) ⟨Or.inl rfl, Or.inl rfl, Or.inl rfl, Or.inl rfl, Or.inl rfl, Or.inl rfl, Or.inr rfl, Or.inr rfl, Or.inl rfl, Or.inl rfl, trivial⟩
      · replace h := ite_f q11 h
        refine q_aload hX dL_law_1319 rfl ?_
        refine q_iconst hX dL_law_1321 (v := (nI 0)) (by decide) ?_
        refine q_dald hX dL_law_1322 ?_
        refine q_aload hX dL_law_1323 rfl ?_
        refine q_iconst hX dL_law_1325 (v := (nI 0)) (by decide) ?_
        refine q_dald hX dL_law_1326 ?_
        refine q_dcmp hX dL_law_1327 ?_
        refine q_if_eq hX dL_law_1328 (tgt := 1339) (by decide) (fun q12 => ?_) (fun q12 => ?_)
        · replace h := ite_t q12 h
          refine q_iconst hX dL_law_1339 (v := (nI 0)) (by decide) ?_
          exact hE dL_law_1340 (by omega) (by omega) h
        · replace h := ite_f q12 h
          refine q_fload hX dL_law_1331 rfl ?_
          refine q_fload hX dL_law_1333 rfl ?_
          refine q_fcmp hX dL_law_1335 ?_
          refine q_if_ne hX dL_law_1336 (tgt := 1341) (by decide) (fun q13 => ?_) (fun q13 => ?_)
          · replace h := ite_f q13 h
            refine q_goto hX dL_law_1341 (tgt := 3520) (by decide) ?_
            exact q_dr (w_L_law_b3520 hf hX hR hN hS hE  (r28 := r28) (s28 := s28) hx28  (by omega) (by omega) _ _ _  h) ⟨Or.inl rfl, Or.inl rfl, Or.inl rfl, Or.inl rfl, Or.inl rfl, Or.inl rfl, Or.inr rfl, Or.inr rfl, Or.inl rfl, Or.inl rfl, trivial⟩
          · replace h := ite_t q13 h
            refine q_iconst hX dL_law_1339 (v := (nI 0)) (by decide) ?_
            exact hE dL_law_1340 (by omega) (by omega) h
  · replace h := ite_f q8 h
    refine q_iconst hX dL_law_1301 (v := (nI 0)) (by decide) ?_
    exact hE dL_law_1302 (by omega) (by omega) h
set_option maxRecDepth 100000 in
set_option maxHeartbeats 4000000 in
theorem w_L_law_b1344 {X : XT} {D : DT} {l : Launch} {xs : Nat → Int32} {nn : Nat} {K : Int32 → IT → LT → Prop} {X28 : Int32 → IT → LT → Prop} (hf : l.stackTraces = false) (hX : OK X D cL_law "TeaHouseLaw" 10) (hR : Room2 X l D 17 603072 7223402) (hN : NCX X) (hS : ScrAt X D nn xs) (hE : EndAt X D K 603072 7223402) {r28 s28 : Nat} (hx28 : ∀ {c w : Nat}, c + r28 ≤ 603072 → w + s28 ≤ 7223402 → ∀ (v5 : Int32) (I : IT) (L : LT), X28 v5 I L → J2 X D 10 c w I L 28 [.ref 1000300, .ref 0, .ref 190, .ref 195, .ref 196, .int v5, .retAddr 0, .retAddr 0, .retAddr 0, .retAddr 0] []) : ∀ {c w : Nat}, c + (1 + r28) ≤ 603072 → w + (6 + s28) ≤ 7223402 → ∀ (v5 : Int32) (I : IT) (L : LT), f_L_law_b1344 xs nn X28 K v5 I L → J2 X D 10 c w I L 1344 [.ref 1000300, .ref 0, .ref 190, .ref 195, .ref 196, .int v5, .retAddr 0, .retAddr 0, .retAddr 0, .retAddr 0] [] := by
  intro c w hc hw v5 I L h
  rw [f_L_law_b1344] at h
  refine q_aload_n hX dL_law_1344 rfl ?_
  refine q_aload_n hX dL_law_1345 rfl ?_
  refine q_iload hX dL_law_1346 rfl ?_
  refine q_iconst hX dL_law_1348 (v := (nI 1)) (by decide) ?_
  refine q_iadd hX dL_law_1349 ?_
  obtain ⟨z1, h⟩ := h
  refine q_sld hX hS dL_law_1350 z1 ?_
  refine q_aload hX dL_law_1351 rfl ?_
  refine q_SW hX hR hN (w_L_temperature hf  h) lk_LW_223 dL_law_1353 rfl rfl (Nat.le_of_ble_eq_true rfl) (by omega) (by omega) (by omega) ?_
  intro x2 I3 L4 h
  refine q_istore hX dL_law_1356 (by decide) (ls' := [_, _, _, _, _, _, _, _, _, _]) rfl ?_
  refine q_aload_n hX dL_law_1358 rfl ?_
  refine q_aload_n hX dL_law_1359 rfl ?_
  refine q_iload hX dL_law_1360 rfl ?_
  refine q_iconst hX dL_law_1362 (v := (nI 1)) (by decide) ?_
  refine q_iadd hX dL_law_1363 ?_
  refine q_sld hX hS dL_law_1364 z1 ?_
  refine q_V_f hX hR (w_X9_temperature  h) lk_L_225 (rc2_of (ci := 10) rfl rfl) dL_law_1365 rfl rfl (Nat.le_of_ble_eq_true rfl) (by omega) (by omega) (by omega) ?_
  intro x5 I6 h
  refine q_fstore hX dL_law_1368 (by decide) (ls' := [_, _, _, _, _, _, _, _, _, _]) rfl ?_
  refine q_aload_n hX dL_law_1370 rfl ?_
  refine q_V_ip hX hR (w_X9_thrown  h) lk_L_166 (rc2_of (ci := 10) rfl rfl) dL_law_1371 rfl rfl (Nat.le_of_ble_eq_true rfl) (by omega) (by omega) (by omega) ?_
  intro x7 h
  refine q_iload hX dL_law_1374 rfl ?_
  refine q_icmp_eq hX dL_law_1376 (tgt := 1381) (by decide) (fun q8 => ?_) (fun q8 => ?_)
  · replace h := ite_t q8 h
    refine q_iload hX dL_law_1381 rfl ?_
    refine q_if_ne hX dL_law_1383 (tgt := 1419) (by decide) (fun q9 => ?_) (fun q9 => ?_)
    · replace h := ite_f q9 h
      refine q_goto hX dL_law_1419 (tgt := 3520) (by decide) ?_
      exact q_dr (w_L_law_b3520 hf hX hR hN hS hE  (r28 := r28) (s28 := s28) hx28  (by omega) (by omega) _ _ _  h) ⟨Or.inl rfl, Or.inl rfl, Or.inl rfl, Or.inl rfl, Or.inl rfl, Or.inl rfl, Or.inr rfl, Or.inr rfl, Or.inl rfl, Or.inl rfl, trivial⟩
    · replace h := ite_t q9 h
      refine q_aload hX dL_law_1386 rfl ?_
      refine q_iconst hX dL_law_1388 (v := (nI 0)) (by decide) ?_
      refine q_dald hX dL_law_1389 ?_
      refine q_fload hX dL_law_1390 rfl ?_
      obtain ⟨z10, h⟩ := h
      refine q_f2d hX dL_law_1392 z10 ?_
      refine q_dcmp hX dL_law_1393 ?_
      refine q_if_eq hX dL_law_1394 (tgt := 1419) (by decide) (fun q11 => ?_) (fun q11 => ?_)
      · replace h := ite_t q11 h
        refine q_goto hX dL_law_1419 (tgt := 3520) (by decide) ?_
        exact q_dr (w_L_law_b3520 hf hX hR hN hS hE  (r28 := r28) (s28 := s28) hx28  (by omega) (by omega) _ _ _  h) ⟨Or.inl rfl, Or.inl rfl, Or.inl rfl, Or.inl rfl, Or.inl rfl, Or.inl rfl, Or.inr rfl, Or.inr rfl, Or.inl rfl, Or.inl rfl, trivial⟩
      · replace h := ite_f q11 h
        refine q_aload hX dL_law_1397 rfl ?_
        refine q_iconst hX dL_law_1399 (v := (nI 0)) (by decide) ?_
        refine q_dald hX dL_law_1400 ?_
        refine q_aload hX dL_law_1401 rfl ?_
        refine q_iconst hX dL_law_1403 (v := (nI 0)) (by decide) ?_
        refine q_dald hX dL_law_1404 ?_
        refine q_dcmp hX dL_law_1405 ?_
        refine q_if_eq hX dL_law_1406 (tgt := 1417) (by decide) (fun q12 => ?_) (fun q12 => ?_)
        · replace h := ite_t q12 h
          refine q_iconst hX dL_law_1417 (v := (nI 0)) (by decide) ?_
          exact hE dL_law_1418 (by omega) (by omega) h
        · replace h := ite_f q12 h
          refine q_fload hX dL_law_1409 rfl ?_
          refine q_fload hX dL_law_1411 rfl ?_
          refine q_fcmp hX dL_law_1413 ?_
          refine q_if_ne hX dL_law_1414 (tgt := 1419) (by decide) (fun q13 => ?_) (fun q13 => ?_)
          · replace h := ite_f q13 h
            refine q_goto hX dL_law_1419 (tgt := 3520) (by decide) ?_
            exact q_dr (w_L_law_b3520 hf hX hR hN hS hE  (r28 := r28) (s28 := s28) hx28  (by omega) (by omega) _ _ _  h) ⟨Or.inl rfl, Or.inl rfl, Or.inl rfl, Or.inl rfl, Or.inl rfl, Or.inl rfl, Or.inr rfl, Or.inr rfl, Or.inl rfl, Or.inl rfl, trivial⟩
          · replace h := ite_t q13 h
            refine q_iconst hX dL_law_1417 (v := (nI 0)) (by decide) ?_
            exact hE dL_law_1418 (by omega) (by omega) h
  · replace h := ite_f q8 h
    refine q_iconst hX dL_law_1379 (v := (nI 0)) (by decide) ?_
    exact hE dL_law_1380 (by omega) (by omega) h
set_option maxRecDepth 100000 in
set_option maxHeartbeats 4000000 in
theorem w_L_law_b1422 {X : XT} {D : DT} {l : Launch} {xs : Nat → Int32} {nn : Nat} {K : Int32 → IT → LT → Prop} {X28 : Int32 → IT → LT → Prop} (hf : l.stackTraces = false) (hX : OK X D cL_law "TeaHouseLaw" 10) (hR : Room2 X l D 17 603072 7223402) (hN : NCX X) (hS : ScrAt X D nn xs) (hE : EndAt X D K 603072 7223402) {r28 s28 : Nat} (hx28 : ∀ {c w : Nat}, c + r28 ≤ 603072 → w + s28 ≤ 7223402 → ∀ (v5 : Int32) (I : IT) (L : LT), X28 v5 I L → J2 X D 10 c w I L 28 [.ref 1000300, .ref 0, .ref 190, .ref 195, .ref 196, .int v5, .retAddr 0, .retAddr 0, .retAddr 0, .retAddr 0] []) : ∀ {c w : Nat}, c + (1 + r28) ≤ 603072 → w + (6 + s28) ≤ 7223402 → ∀ (v5 : Int32) (I : IT) (L : LT), f_L_law_b1422 xs nn X28 K v5 I L → J2 X D 10 c w I L 1422 [.ref 1000300, .ref 0, .ref 190, .ref 195, .ref 196, .int v5, .retAddr 0, .retAddr 0, .retAddr 0, .retAddr 0] [] := by
  intro c w hc hw v5 I L h
  rw [f_L_law_b1422] at h
  refine q_aload_n hX dL_law_1422 rfl ?_
  refine q_aload_n hX dL_law_1423 rfl ?_
  refine q_iload hX dL_law_1424 rfl ?_
  refine q_iconst hX dL_law_1426 (v := (nI 1)) (by decide) ?_
  refine q_iadd hX dL_law_1427 ?_
  obtain ⟨z1, h⟩ := h
  refine q_sld hX hS dL_law_1428 z1 ?_
  refine q_aload_n hX dL_law_1429 rfl ?_
  refine q_SW hX hR hN (w_L_temperatureBits hf  h) lk_LW_226 dL_law_1430 rfl rfl (Nat.le_of_ble_eq_true rfl) (by omega) (by omega) (by omega) ?_
  intro x2 I3 L4 h
  refine q_istore hX dL_law_1433 (by decide) (ls' := [_, _, _, _, _, _, _, _, _, _]) rfl ?_
  refine q_aload_n hX dL_law_1435 rfl ?_
  refine q_aload_n hX dL_law_1436 rfl ?_
  refine q_iload hX dL_law_1437 rfl ?_
  refine q_iconst hX dL_law_1439 (v := (nI 1)) (by decide) ?_
  refine q_iadd hX dL_law_1440 ?_
  refine q_sld hX hS dL_law_1441 z1 ?_
  refine q_V_i hX hR (w_X9_temperatureBits  h) lk_L_228 (rc2_of (ci := 10) rfl rfl) dL_law_1442 rfl rfl (Nat.le_of_ble_eq_true rfl) (by omega) (by omega) (by omega) ?_
  intro x5 I6 h
  refine q_istore hX dL_law_1445 (by decide) (ls' := [_, _, _, _, _, _, _, _, _, _]) rfl ?_
  refine q_aload_n hX dL_law_1447 rfl ?_
  refine q_V_ip hX hR (w_X9_thrown  h) lk_L_166 (rc2_of (ci := 10) rfl rfl) dL_law_1448 rfl rfl (Nat.le_of_ble_eq_true rfl) (by omega) (by omega) (by omega) ?_
  intro x7 h
  refine q_iload hX dL_law_1451 rfl ?_
  refine q_icmp_eq hX dL_law_1453 (tgt := 1458) (by decide) (fun q8 => ?_) (fun q8 => ?_)
  · replace h := ite_t q8 h
    refine q_iload hX dL_law_1458 rfl ?_
    refine q_if_ne hX dL_law_1460 (tgt := 1475) (by decide) (fun q9 => ?_) (fun q9 => ?_)
    · replace h := ite_f q9 h
      refine q_goto hX dL_law_1475 (tgt := 3520) (by decide) ?_
      exact q_dr (w_L_law_b3520 hf hX hR hN hS hE  (r28 := r28) (s28 := s28) hx28  (by omega) (by omega) _ _ _  h) ⟨Or.inl rfl, Or.inl rfl, Or.inl rfl, Or.inl rfl, Or.inl rfl, Or.inl rfl, Or.inr rfl, Or.inr rfl, Or.inl rfl, Or.inl rfl, trivial⟩
    · replace h := ite_t q9 h
      refine q_aload_n hX dL_law_1463 rfl ?_
      refine q_iconst hX dL_law_1464 (v := (nI 0)) (by decide) ?_
      refine q_lald hX dL_law_1465 ?_
      refine q_iload hX dL_law_1466 rfl ?_
      refine q_i2l hX dL_law_1468 rfl ?_
      refine q_lcmp hX dL_law_1469 ?_
      refine q_if_eq hX dL_law_1470 (tgt := 1475) (by decide) (fun q10 => ?_) (fun q10 => ?_)
      · replace h := ite_t q10 h
        refine q_goto hX dL_law_1475 (tgt := 3520) (by decide) ?_
        exact q_dr (w_L_law_b3520 hf hX hR hN hS hE  (r28 := r28) (s28 := s28) hx28  (by omega) (by omega) _ _ _  h) ⟨Or.inl rfl, Or.inl rfl, Or.inl rfl, Or.inl rfl, Or.inl rfl, Or.inl rfl, Or.inr rfl, Or.inr rfl, Or.inl rfl, Or.inl rfl, trivial⟩
      · replace h := ite_f q10 h
        refine q_iconst hX dL_law_1473 (v := (nI 0)) (by decide) ?_
        exact hE dL_law_1474 (by omega) (by omega) h
  · replace h := ite_f q8 h
    refine q_iconst hX dL_law_1456 (v := (nI 0)) (by decide) ?_
    exact hE dL_law_1457 (by omega) (by omega) h
set_option maxRecDepth 100000 in
set_option maxHeartbeats 4000000 in
theorem w_L_law_b1478 {X : XT} {D : DT} {l : Launch} {xs : Nat → Int32} {nn : Nat} {K : Int32 → IT → LT → Prop} {X28 : Int32 → IT → LT → Prop} (hf : l.stackTraces = false) (hX : OK X D cL_law "TeaHouseLaw" 10) (hR : Room2 X l D 17 603072 7223402) (hN : NCX X) (hS : ScrAt X D nn xs) (hE : EndAt X D K 603072 7223402) {r28 s28 : Nat} (hx28 : ∀ {c w : Nat}, c + r28 ≤ 603072 → w + s28 ≤ 7223402 → ∀ (v5 : Int32) (I : IT) (L : LT), X28 v5 I L → J2 X D 10 c w I L 28 [.ref 1000300, .ref 0, .ref 190, .ref 195, .ref 196, .int v5, .retAddr 0, .retAddr 0, .retAddr 0, .retAddr 0] []) : ∀ {c w : Nat}, c + (1 + r28) ≤ 603072 → w + (6 + s28) ≤ 7223402 → ∀ (v5 : Int32) (I : IT) (L : LT), f_L_law_b1478 xs nn X28 K v5 I L → J2 X D 10 c w I L 1478 [.ref 1000300, .ref 0, .ref 190, .ref 195, .ref 196, .int v5, .retAddr 0, .retAddr 0, .retAddr 0, .retAddr 0] [] := by
  intro c w hc hw v5 I L h
  rw [f_L_law_b1478] at h
  refine q_aload_n hX dL_law_1478 rfl ?_
  refine q_aload_n hX dL_law_1479 rfl ?_
  refine q_iload hX dL_law_1480 rfl ?_
  refine q_iconst hX dL_law_1482 (v := (nI 1)) (by decide) ?_
  refine q_iadd hX dL_law_1483 ?_
  obtain ⟨z1, h⟩ := h
  refine q_sld hX hS dL_law_1484 z1 ?_
  refine q_aload_n hX dL_law_1485 rfl ?_
  refine q_SW hX hR hN (w_L_burner hf  h) lk_LW_229 dL_law_1486 rfl rfl (Nat.le_of_ble_eq_true rfl) (by omega) (by omega) (by omega) ?_
  intro x2 I3 L4 h
  refine q_istore hX dL_law_1489 (by decide) (ls' := [_, _, _, _, _, _, _, _, _, _]) rfl ?_
  refine q_aload_n hX dL_law_1491 rfl ?_
  refine q_aload_n hX dL_law_1492 rfl ?_
  refine q_iload hX dL_law_1493 rfl ?_
  refine q_iconst hX dL_law_1495 (v := (nI 1)) (by decide) ?_
  refine q_iadd hX dL_law_1496 ?_
  refine q_sld hX hS dL_law_1497 z1 ?_
  refine q_V_i hX hR (w_X9_burner  h) lk_L_231 (rc2_of (ci := 10) rfl rfl) dL_law_1498 rfl rfl (Nat.le_of_ble_eq_true rfl) (by omega) (by omega) (by omega) ?_
  intro x5 I6 h
  refine q_istore hX dL_law_1501 (by decide) (ls' := [_, _, _, _, _, _, _, _, _, _]) rfl ?_
  refine q_aload_n hX dL_law_1503 rfl ?_
  refine q_V_ip hX hR (w_X9_thrown  h) lk_L_166 (rc2_of (ci := 10) rfl rfl) dL_law_1504 rfl rfl (Nat.le_of_ble_eq_true rfl) (by omega) (by omega) (by omega) ?_
  intro x7 h
  refine q_iload hX dL_law_1507 rfl ?_
  refine q_icmp_eq hX dL_law_1509 (tgt := 1514) (by decide) (fun q8 => ?_) (fun q8 => ?_)
  · replace h := ite_t q8 h
    refine q_iload hX dL_law_1514 rfl ?_
    refine q_if_ne hX dL_law_1516 (tgt := 1531) (by decide) (fun q9 => ?_) (fun q9 => ?_)
    · replace h := ite_f q9 h
      refine q_goto hX dL_law_1531 (tgt := 3520) (by decide) ?_
      exact q_dr (w_L_law_b3520 hf hX hR hN hS hE  (r28 := r28) (s28 := s28) hx28  (by omega) (by omega) _ _ _  h) ⟨Or.inl rfl, Or.inl rfl, Or.inl rfl, Or.inl rfl, Or.inl rfl, Or.inl rfl, Or.inr rfl, Or.inr rfl, Or.inl rfl, Or.inl rfl, trivial⟩
    · replace h := ite_t q9 h
      refine q_aload_n hX dL_law_1519 rfl ?_
      refine q_iconst hX dL_law_1520 (v := (nI 0)) (by decide) ?_
      refine q_lald hX dL_law_1521 ?_
      refine q_iload hX dL_law_1522 rfl ?_
      refine q_i2l hX dL_law_1524 rfl ?_
      refine q_lcmp hX dL_law_1525 ?_
      refine q_if_eq hX dL_law_1526 (tgt := 1531) (by decide) (fun q10 => ?_) (fun q10 => ?_)
      · replace h := ite_t q10 h
        refine q_goto hX dL_law_1531 (tgt := 3520) (by decide) ?_
        exact q_dr (w_L_law_b3520 hf hX hR hN hS hE  (r28 := r28) (s28 := s28) hx28  (by omega) (by omega) _ _ _  h) ⟨Or.inl rfl, Or.inl rfl, Or.inl rfl, Or.inl rfl, Or.inl rfl, Or.inl rfl, Or.inr rfl, Or.inr rfl, Or.inl rfl, Or.inl rfl, trivial⟩
      · replace h := ite_f q10 h
        refine q_iconst hX dL_law_1529 (v := (nI 0)) (by decide) ?_
        exact hE dL_law_1530 (by omega) (by omega) h
  · replace h := ite_f q8 h
    refine q_iconst hX dL_law_1512 (v := (nI 0)) (by decide) ?_
    exact hE dL_law_1513 (by omega) (by omega) h
set_option maxRecDepth 100000 in
set_option maxHeartbeats 4000000 in
theorem w_L_law_b1588 {X : XT} {D : DT} {l : Launch} {xs : Nat → Int32} {nn : Nat} {K : Int32 → IT → LT → Prop} {X28 : Int32 → IT → LT → Prop} (hf : l.stackTraces = false) (hX : OK X D cL_law "TeaHouseLaw" 10) (hR : Room2 X l D 17 603072 7223402) (hN : NCX X) (hS : ScrAt X D nn xs) (hE : EndAt X D K 603072 7223402) {r28 s28 : Nat} (hx28 : ∀ {c w : Nat}, c + r28 ≤ 603072 → w + s28 ≤ 7223402 → ∀ (v5 : Int32) (I : IT) (L : LT), X28 v5 I L → J2 X D 10 c w I L 28 [.ref 1000300, .ref 0, .ref 190, .ref 195, .ref 196, .int v5, .retAddr 0, .retAddr 0, .retAddr 0, .retAddr 0] []) : ∀ {c w : Nat}, c + (0 + r28) ≤ 603072 → w + (0 + s28) ≤ 7223402 → ∀ (v5 : Int32) (s0 : Int64) (s1 : Int64) (I : IT) (L : LT), f_L_law_b1588 xs nn X28 K v5 s0 s1 I L → J2 X D 10 c w I L 1588 [.ref 1000300, .ref 0, .ref 190, .ref 195, .ref 196, .int v5, .retAddr 0, .retAddr 0, .retAddr 0, .retAddr 0] [.long s1, .long s0] := by
  intro c w hc hw v5 s0 s1 I L h
  rw [f_L_law_b1588] at h
  refine q_lcmp hX dL_law_1588 ?_
  refine q_if_eq hX dL_law_1589 (tgt := 1594) (by decide) (fun q1 => ?_) (fun q1 => ?_)
  · replace h := ite_t q1 h
    refine q_goto hX dL_law_1594 (tgt := 3520) (by decide) ?_
    exact q_dr (w_L_law_b3520 hf hX hR hN hS hE  (r28 := r28) (s28 := s28) hx28  (by omega) (by omega) _ _ _  h) ⟨Or.inl rfl, Or.inl rfl, Or.inl rfl, Or.inl rfl, Or.inl rfl, Or.inl rfl, Or.inl rfl, Or.inl rfl, Or.inl rfl, Or.inl rfl, trivial⟩
  · replace h := ite_f q1 h
    refine q_iconst hX dL_law_1592 (v := (nI 0)) (by decide) ?_
    exact hE dL_law_1593 (by omega) (by omega) h
set_option maxRecDepth 100000 in
set_option maxHeartbeats 4000000 in
theorem w_L_law_b1534 {X : XT} {D : DT} {l : Launch} {xs : Nat → Int32} {nn : Nat} {K : Int32 → IT → LT → Prop} {X28 : Int32 → IT → LT → Prop} (hf : l.stackTraces = false) (hX : OK X D cL_law "TeaHouseLaw" 10) (hR : Room2 X l D 17 603072 7223402) (hN : NCX X) (hS : ScrAt X D nn xs) (hE : EndAt X D K 603072 7223402) {r28 s28 : Nat} (hx28 : ∀ {c w : Nat}, c + r28 ≤ 603072 → w + s28 ≤ 7223402 → ∀ (v5 : Int32) (I : IT) (L : LT), X28 v5 I L → J2 X D 10 c w I L 28 [.ref 1000300, .ref 0, .ref 190, .ref 195, .ref 196, .int v5, .retAddr 0, .retAddr 0, .retAddr 0, .retAddr 0] []) : ∀ {c w : Nat}, c + (1 + r28) ≤ 603072 → w + (6 + s28) ≤ 7223402 → ∀ (v5 : Int32) (I : IT) (L : LT), f_L_law_b1534 xs nn X28 K v5 I L → J2 X D 10 c w I L 1534 [.ref 1000300, .ref 0, .ref 190, .ref 195, .ref 196, .int v5, .retAddr 0, .retAddr 0, .retAddr 0, .retAddr 0] [] := by
  intro c w hc hw v5 I L h
  rw [f_L_law_b1534] at h
  refine q_aload_n hX dL_law_1534 rfl ?_
  refine q_aload_n hX dL_law_1535 rfl ?_
  refine q_iload hX dL_law_1536 rfl ?_
  refine q_iconst hX dL_law_1538 (v := (nI 1)) (by decide) ?_
  refine q_iadd hX dL_law_1539 ?_
  obtain ⟨z1, h⟩ := h
  refine q_sld hX hS dL_law_1540 z1 ?_
  refine q_aload_n hX dL_law_1541 rfl ?_
  refine q_SW hX hR hN (w_L_isBoiling hf  h) lk_LW_232 dL_law_1542 rfl rfl (Nat.le_of_ble_eq_true rfl) (by omega) (by omega) (by omega) ?_
  intro x2 I3 L4 h
  refine q_istore hX dL_law_1545 (by decide) (ls' := [_, _, _, _, _, _, _, _, _, _]) rfl ?_
  refine q_aload_n hX dL_law_1547 rfl ?_
  refine q_aload_n hX dL_law_1548 rfl ?_
  refine q_iload hX dL_law_1549 rfl ?_
  refine q_iconst hX dL_law_1551 (v := (nI 1)) (by decide) ?_
  refine q_iadd hX dL_law_1552 ?_
  refine q_sld hX hS dL_law_1553 z1 ?_
  refine q_V_z hX hR (w_X9_isBoiling  h) lk_L_234 (rc2_of (ci := 10) rfl rfl) dL_law_1554 rfl rfl (Nat.le_of_ble_eq_true rfl) (by omega) (by omega) (by omega) ?_
  intro x5 I6 hrx5 h
  refine q_istore hX dL_law_1557 (by decide) (ls' := [_, _, _, _, _, _, _, _, _, _]) rfl ?_
  refine q_aload_n hX dL_law_1559 rfl ?_
  refine q_V_ip hX hR (w_X9_thrown  h) lk_L_166 (rc2_of (ci := 10) rfl rfl) dL_law_1560 rfl rfl (Nat.le_of_ble_eq_true rfl) (by omega) (by omega) (by omega) ?_
  intro x7 h
  refine q_iload hX dL_law_1563 rfl ?_
  refine q_icmp_eq hX dL_law_1565 (tgt := 1570) (by decide) (fun q8 => ?_) (fun q8 => ?_)
  · replace h := ite_t q8 h
    refine q_iload hX dL_law_1570 rfl ?_
    refine q_if_ne hX dL_law_1572 (tgt := 1594) (by decide) (fun q9 => ?_) (fun q9 => ?_)
    · replace h := ite_f q9 h
      refine q_goto hX dL_law_1594 (tgt := 3520) (by decide) ?_
      exact q_dr (w_L_law_b3520 hf hX hR hN hS hE  (r28 := r28) (s28 := s28) hx28  (by omega) (by omega) _ _ _  h) ⟨Or.inl rfl, Or.inl rfl, Or.inl rfl, Or.inl rfl, Or.inl rfl, Or.inl rfl, Or.inr rfl, Or.inr rfl, Or.inl rfl, Or.inl rfl, trivial⟩
    · replace h := ite_t q9 h
      refine q_aload_n hX dL_law_1575 rfl ?_
      refine q_iconst hX dL_law_1576 (v := (nI 0)) (by decide) ?_
      refine q_lald hX dL_law_1577 ?_
      refine q_iload hX dL_law_1578 rfl ?_
      refine q_if_eq hX dL_law_1580 (tgt := 1587) (by decide) (fun q10 => ?_) (fun q10 => ?_)
      · replace h := ite_t q10 h
        refine q_lconst hX dL_law_1587 (v := lN 0) rfl ?_
        exact q_dr (w_L_law_b1588 hf hX hR hN hS hE  (r28 := r28) (s28 := s28) hx28  (by omega) (by omega) _ _ _ _ _  h) ⟨Or.inl rfl, Or.inl rfl, Or.inl rfl, Or.inl rfl, Or.inl rfl, Or.inl rfl, Or.inr rfl, Or.inr rfl, Or.inl rfl, Or.inl rfl, trivial⟩
      · replace h := ite_f q10 h
        refine q_lconst hX dL_law_1583 (v := lN 1) rfl ?_
        refine q_goto hX dL_law_1584 (tgt := 1588) (by decide) ?_
        exact q_dr (w_L_law_b1588 hf hX hR hN hS hE  (r28 := r28) (s28 := s28) hx28  (by omega) (by omega) _ _ _ _ _  h) ⟨Or.inl rfl, Or.inl rfl, Or.inl rfl, Or.inl rfl, Or.inl rfl, Or.inl rfl, Or.inr rfl, Or.inr rfl, Or.inl rfl, Or.inl rfl, trivial⟩
  · replace h := ite_f q8 h
    refine q_iconst hX dL_law_1568 (v := (nI 0)) (by decide) ?_
    exact hE dL_law_1569 (by omega) (by omega) h
set_option maxRecDepth 100000 in
set_option maxHeartbeats 4000000 in
theorem w_L_law_b1597 {X : XT} {D : DT} {l : Launch} {xs : Nat → Int32} {nn : Nat} {K : Int32 → IT → LT → Prop} {X28 : Int32 → IT → LT → Prop} (hf : l.stackTraces = false) (hX : OK X D cL_law "TeaHouseLaw" 10) (hR : Room2 X l D 17 603072 7223402) (hN : NCX X) (hS : ScrAt X D nn xs) (hE : EndAt X D K 603072 7223402) {r28 s28 : Nat} (hx28 : ∀ {c w : Nat}, c + r28 ≤ 603072 → w + s28 ≤ 7223402 → ∀ (v5 : Int32) (I : IT) (L : LT), X28 v5 I L → J2 X D 10 c w I L 28 [.ref 1000300, .ref 0, .ref 190, .ref 195, .ref 196, .int v5, .retAddr 0, .retAddr 0, .retAddr 0, .retAddr 0] []) : ∀ {c w : Nat}, c + (2 + r28) ≤ 603072 → w + (12 + s28) ≤ 7223402 → ∀ (v5 : Int32) (I : IT) (L : LT), f_L_law_b1597 xs nn X28 K v5 I L → J2 X D 10 c w I L 1597 [.ref 1000300, .ref 0, .ref 190, .ref 195, .ref 196, .int v5, .retAddr 0, .retAddr 0, .retAddr 0, .retAddr 0] [] := by
  intro c w hc hw v5 I L h
  rw [f_L_law_b1597] at h
  refine q_aload_n hX dL_law_1597 rfl ?_
  refine q_aload_n hX dL_law_1598 rfl ?_
  refine q_iload hX dL_law_1599 rfl ?_
  refine q_iconst hX dL_law_1601 (v := (nI 1)) (by decide) ?_
  refine q_iadd hX dL_law_1602 ?_
  obtain ⟨z1, h⟩ := h
  refine q_sld hX hS dL_law_1603 z1 ?_
  refine q_aload_n hX dL_law_1604 rfl ?_
  refine q_SW hX hR hN (w_L_minutesUntilBoiling hf  h) lk_LW_235 dL_law_1605 rfl rfl (Nat.le_of_ble_eq_true rfl) (by omega) (by omega) (by omega) ?_
  intro x2 I3 L4 h
  refine q_istore hX dL_law_1608 (by decide) (ls' := [_, _, _, _, _, _, _, _, _, _]) rfl ?_
  refine q_aload_n hX dL_law_1610 rfl ?_
  refine q_aload_n hX dL_law_1611 rfl ?_
  refine q_iload hX dL_law_1612 rfl ?_
  refine q_iconst hX dL_law_1614 (v := (nI 1)) (by decide) ?_
  refine q_iadd hX dL_law_1615 ?_
  refine q_sld hX hS dL_law_1616 z1 ?_
  refine q_V_i hX hR (w_X9_minutesUntilBoiling  h) lk_L_237 (rc2_of (ci := 10) rfl rfl) dL_law_1617 rfl rfl (Nat.le_of_ble_eq_true rfl) (by omega) (by omega) (by omega) ?_
  intro x5 I6 h
  refine q_istore hX dL_law_1620 (by decide) (ls' := [_, _, _, _, _, _, _, _, _, _]) rfl ?_
  refine q_aload_n hX dL_law_1622 rfl ?_
  refine q_V_ip hX hR (w_X9_thrown  h) lk_L_166 (rc2_of (ci := 10) rfl rfl) dL_law_1623 rfl rfl (Nat.le_of_ble_eq_true rfl) (by omega) (by omega) (by omega) ?_
  intro x7 h
  refine q_iload hX dL_law_1626 rfl ?_
  refine q_icmp_eq hX dL_law_1628 (tgt := 1633) (by decide) (fun q8 => ?_) (fun q8 => ?_)
  · replace h := ite_t q8 h
    refine q_iload hX dL_law_1633 rfl ?_
    refine q_if_ne hX dL_law_1635 (tgt := 1650) (by decide) (fun q9 => ?_) (fun q9 => ?_)
    · replace h := ite_f q9 h
      refine q_goto hX dL_law_1650 (tgt := 3520) (by decide) ?_
      exact q_dr (w_L_law_b3520 hf hX hR hN hS hE  (r28 := r28) (s28 := s28) hx28  (by omega) (by omega) _ _ _  h) ⟨Or.inl rfl, Or.inl rfl, Or.inl rfl, Or.inl rfl, Or.inl rfl, Or.inl rfl, Or.inr rfl, Or.inr rfl, Or.inl rfl, Or.inl rfl, trivial⟩
    · replace h := ite_t q9 h
      refine q_aload_n hX dL_law_1638 rfl ?_
      refine q_iconst hX dL_law_1639 (v := (nI 0)) (by decide) ?_
      refine q_lald hX dL_law_1640 ?_
      refine q_iload hX dL_law_1641 rfl ?_
      refine q_i2l hX dL_law_1643 rfl ?_
      refine q_lcmp hX dL_law_1644 ?_
      refine q_if_eq hX dL_law_1645 (tgt := 1650) (by decide) (fun q10 => ?_) (fun q10 => ?_)
      · replace h := ite_t q10 h
        refine q_goto hX dL_law_1650 (tgt := 3520) (by decide) ?_
        exact q_dr (w_L_law_b3520 hf hX hR hN hS hE  (r28 := r28) (s28 := s28) hx28  (by omega) (by omega) _ _ _  h) ⟨Or.inl rfl, Or.inl rfl, Or.inl rfl, Or.inl rfl, Or.inl rfl, Or.inl rfl, Or.inr rfl, Or.inr rfl, Or.inl rfl, Or.inl rfl, trivial⟩
      · replace h := ite_f q10 h
        refine q_iconst hX dL_law_1648 (v := (nI 0)) (by decide) ?_
        exact hE dL_law_1649 (by omega) (by omega) h
  · replace h := ite_f q8 h
    refine q_iconst hX dL_law_1631 (v := (nI 0)) (by decide) ?_
    exact hE dL_law_1632 (by omega) (by omega) h
set_option maxRecDepth 100000 in
set_option maxHeartbeats 4000000 in
theorem w_L_law_b1653 {X : XT} {D : DT} {l : Launch} {xs : Nat → Int32} {nn : Nat} {K : Int32 → IT → LT → Prop} {X28 : Int32 → IT → LT → Prop} (hf : l.stackTraces = false) (hX : OK X D cL_law "TeaHouseLaw" 10) (hR : Room2 X l D 17 603072 7223402) (hN : NCX X) (hS : ScrAt X D nn xs) (hE : EndAt X D K 603072 7223402) {r28 s28 : Nat} (hx28 : ∀ {c w : Nat}, c + r28 ≤ 603072 → w + s28 ≤ 7223402 → ∀ (v5 : Int32) (I : IT) (L : LT), X28 v5 I L → J2 X D 10 c w I L 28 [.ref 1000300, .ref 0, .ref 190, .ref 195, .ref 196, .int v5, .retAddr 0, .retAddr 0, .retAddr 0, .retAddr 0] []) : ∀ {c w : Nat}, c + (2 + r28) ≤ 603072 → w + (12 + s28) ≤ 7223402 → ∀ (v5 : Int32) (I : IT) (L : LT), f_L_law_b1653 xs nn X28 K v5 I L → J2 X D 10 c w I L 1653 [.ref 1000300, .ref 0, .ref 190, .ref 195, .ref 196, .int v5, .retAddr 0, .retAddr 0, .retAddr 0, .retAddr 0] [] := by
  intro c w hc hw v5 I L h
  rw [f_L_law_b1653] at h
  refine q_aload_n hX dL_law_1653 rfl ?_
  refine q_aload_n hX dL_law_1654 rfl ?_
  refine q_iload hX dL_law_1655 rfl ?_
  refine q_iconst hX dL_law_1657 (v := (nI 1)) (by decide) ?_
  refine q_iadd hX dL_law_1658 ?_
  obtain ⟨z1, h⟩ := h
  refine q_sld hX hS dL_law_1659 z1 ?_
  refine q_aload_n hX dL_law_1660 rfl ?_
  refine q_SW hX hR hN (w_L_minutesUntilBoilingByMinutes hf  h) lk_LW_238 dL_law_1661 rfl rfl (Nat.le_of_ble_eq_true rfl) (by omega) (by omega) (by omega) ?_
  intro x2 I3 L4 h
  refine q_istore hX dL_law_1664 (by decide) (ls' := [_, _, _, _, _, _, _, _, _, _]) rfl ?_
  refine q_aload_n hX dL_law_1666 rfl ?_
  refine q_aload_n hX dL_law_1667 rfl ?_
  refine q_iload hX dL_law_1668 rfl ?_
  refine q_iconst hX dL_law_1670 (v := (nI 1)) (by decide) ?_
  refine q_iadd hX dL_law_1671 ?_
  refine q_sld hX hS dL_law_1672 z1 ?_
  refine q_V_i hX hR (w_X9_minutesUntilBoilingByMinutes  h) lk_L_240 (rc2_of (ci := 10) rfl rfl) dL_law_1673 rfl rfl (Nat.le_of_ble_eq_true rfl) (by omega) (by omega) (by omega) ?_
  intro x5 I6 h
  refine q_istore hX dL_law_1676 (by decide) (ls' := [_, _, _, _, _, _, _, _, _, _]) rfl ?_
  refine q_aload_n hX dL_law_1678 rfl ?_
  refine q_V_ip hX hR (w_X9_thrown  h) lk_L_166 (rc2_of (ci := 10) rfl rfl) dL_law_1679 rfl rfl (Nat.le_of_ble_eq_true rfl) (by omega) (by omega) (by omega) ?_
  intro x7 h
  refine q_iload hX dL_law_1682 rfl ?_
  refine q_icmp_eq hX dL_law_1684 (tgt := 1689) (by decide) (fun q8 => ?_) (fun q8 => ?_)
  · replace h := ite_t q8 h
    refine q_iload hX dL_law_1689 rfl ?_
    refine q_if_ne hX dL_law_1691 (tgt := 1706) (by decide) (fun q9 => ?_) (fun q9 => ?_)
    · replace h := ite_f q9 h
      refine q_goto hX dL_law_1706 (tgt := 3520) (by decide) ?_
      exact q_dr (w_L_law_b3520 hf hX hR hN hS hE  (r28 := r28) (s28 := s28) hx28  (by omega) (by omega) _ _ _  h) ⟨Or.inl rfl, Or.inl rfl, Or.inl rfl, Or.inl rfl, Or.inl rfl, Or.inl rfl, Or.inr rfl, Or.inr rfl, Or.inl rfl, Or.inl rfl, trivial⟩
    · replace h := ite_t q9 h
      refine q_aload_n hX dL_law_1694 rfl ?_
      refine q_iconst hX dL_law_1695 (v := (nI 0)) (by decide) ?_
      refine q_lald hX dL_law_1696 ?_
      refine q_iload hX dL_law_1697 rfl ?_
      refine q_i2l hX dL_law_1699 rfl ?_
      refine q_lcmp hX dL_law_1700 ?_
      refine q_if_eq hX dL_law_1701 (tgt := 1706) (by decide) (fun q10 => ?_) (fun q10 => ?_)
      · replace h := ite_t q10 h
        refine q_goto hX dL_law_1706 (tgt := 3520) (by decide) ?_
        exact q_dr (w_L_law_b3520 hf hX hR hN hS hE  (r28 := r28) (s28 := s28) hx28  (by omega) (by omega) _ _ _  h) ⟨Or.inl rfl, Or.inl rfl, Or.inl rfl, Or.inl rfl, Or.inl rfl, Or.inl rfl, Or.inr rfl, Or.inr rfl, Or.inl rfl, Or.inl rfl, trivial⟩
      · replace h := ite_f q10 h
        refine q_iconst hX dL_law_1704 (v := (nI 0)) (by decide) ?_
        exact hE dL_law_1705 (by omega) (by omega) h
  · replace h := ite_f q8 h
    refine q_iconst hX dL_law_1687 (v := (nI 0)) (by decide) ?_
    exact hE dL_law_1688 (by omega) (by omega) h
set_option maxRecDepth 100000 in
set_option maxHeartbeats 4000000 in
theorem w_L_law_b1709 {X : XT} {D : DT} {l : Launch} {xs : Nat → Int32} {nn : Nat} {K : Int32 → IT → LT → Prop} {X28 : Int32 → IT → LT → Prop} (hf : l.stackTraces = false) (hX : OK X D cL_law "TeaHouseLaw" 10) (hR : Room2 X l D 17 603072 7223402) (hN : NCX X) (hS : ScrAt X D nn xs) (hE : EndAt X D K 603072 7223402) {r28 s28 : Nat} (hx28 : ∀ {c w : Nat}, c + r28 ≤ 603072 → w + s28 ≤ 7223402 → ∀ (v5 : Int32) (I : IT) (L : LT), X28 v5 I L → J2 X D 10 c w I L 28 [.ref 1000300, .ref 0, .ref 190, .ref 195, .ref 196, .int v5, .retAddr 0, .retAddr 0, .retAddr 0, .retAddr 0] []) : ∀ {c w : Nat}, c + (1 + r28) ≤ 603072 → w + (6 + s28) ≤ 7223402 → ∀ (v5 : Int32) (I : IT) (L : LT), f_L_law_b1709 xs nn X28 K v5 I L → J2 X D 10 c w I L 1709 [.ref 1000300, .ref 0, .ref 190, .ref 195, .ref 196, .int v5, .retAddr 0, .retAddr 0, .retAddr 0, .retAddr 0] [] := by
  intro c w hc hw v5 I L h
  rw [f_L_law_b1709] at h
  refine q_aload_n hX dL_law_1709 rfl ?_
  refine q_aload_n hX dL_law_1710 rfl ?_
  refine q_iload hX dL_law_1711 rfl ?_
  refine q_iconst hX dL_law_1713 (v := (nI 1)) (by decide) ?_
  refine q_iadd hX dL_law_1714 ?_
  obtain ⟨z1, h⟩ := h
  refine q_sld hX hS dL_law_1715 z1 ?_
  refine q_aload_n hX dL_law_1716 rfl ?_
  refine q_SW hX hR hN (w_L_kettleByTemperature hf  h) lk_LW_241 dL_law_1717 rfl rfl (Nat.le_of_ble_eq_true rfl) (by omega) (by omega) (by omega) ?_
  intro x2 I3 L4 h
  refine q_istore hX dL_law_1720 (by decide) (ls' := [_, _, _, _, _, _, _, _, _, _]) rfl ?_
  refine q_aload_n hX dL_law_1722 rfl ?_
  refine q_aload_n hX dL_law_1723 rfl ?_
  refine q_iload hX dL_law_1724 rfl ?_
  refine q_iconst hX dL_law_1726 (v := (nI 1)) (by decide) ?_
  refine q_iadd hX dL_law_1727 ?_
  refine q_sld hX hS dL_law_1728 z1 ?_
  refine q_V_i hX hR (w_X9_kettleByTemperature  h) lk_L_243 (rc2_of (ci := 10) rfl rfl) dL_law_1729 rfl rfl (Nat.le_of_ble_eq_true rfl) (by omega) (by omega) (by omega) ?_
  intro x5 I6 h
  refine q_istore hX dL_law_1732 (by decide) (ls' := [_, _, _, _, _, _, _, _, _, _]) rfl ?_
  refine q_aload_n hX dL_law_1734 rfl ?_
  refine q_V_ip hX hR (w_X9_thrown  h) lk_L_166 (rc2_of (ci := 10) rfl rfl) dL_law_1735 rfl rfl (Nat.le_of_ble_eq_true rfl) (by omega) (by omega) (by omega) ?_
  intro x7 h
  refine q_iload hX dL_law_1738 rfl ?_
  refine q_icmp_eq hX dL_law_1740 (tgt := 1745) (by decide) (fun q8 => ?_) (fun q8 => ?_)
  · replace h := ite_t q8 h
    refine q_iload hX dL_law_1745 rfl ?_
    refine q_if_ne hX dL_law_1747 (tgt := 1762) (by decide) (fun q9 => ?_) (fun q9 => ?_)
    · replace h := ite_f q9 h
      refine q_goto hX dL_law_1762 (tgt := 3520) (by decide) ?_
      exact q_dr (w_L_law_b3520 hf hX hR hN hS hE  (r28 := r28) (s28 := s28) hx28  (by omega) (by omega) _ _ _  h) ⟨Or.inl rfl, Or.inl rfl, Or.inl rfl, Or.inl rfl, Or.inl rfl, Or.inl rfl, Or.inr rfl, Or.inr rfl, Or.inl rfl, Or.inl rfl, trivial⟩
    · replace h := ite_t q9 h
      refine q_aload_n hX dL_law_1750 rfl ?_
      refine q_iconst hX dL_law_1751 (v := (nI 0)) (by decide) ?_
      refine q_lald hX dL_law_1752 ?_
      refine q_iload hX dL_law_1753 rfl ?_
      refine q_i2l hX dL_law_1755 rfl ?_
      refine q_lcmp hX dL_law_1756 ?_
      refine q_if_eq hX dL_law_1757 (tgt := 1762) (by decide) (fun q10 => ?_) (fun q10 => ?_)
      · replace h := ite_t q10 h
        refine q_goto hX dL_law_1762 (tgt := 3520) (by decide) ?_
        exact q_dr (w_L_law_b3520 hf hX hR hN hS hE  (r28 := r28) (s28 := s28) hx28  (by omega) (by omega) _ _ _  h) ⟨Or.inl rfl, Or.inl rfl, Or.inl rfl, Or.inl rfl, Or.inl rfl, Or.inl rfl, Or.inr rfl, Or.inr rfl, Or.inl rfl, Or.inl rfl, trivial⟩
      · replace h := ite_f q10 h
        refine q_iconst hX dL_law_1760 (v := (nI 0)) (by decide) ?_
        exact hE dL_law_1761 (by omega) (by omega) h
  · replace h := ite_f q8 h
    refine q_iconst hX dL_law_1743 (v := (nI 0)) (by decide) ?_
    exact hE dL_law_1744 (by omega) (by omega) h
set_option maxRecDepth 100000 in
set_option maxHeartbeats 4000000 in
theorem w_L_law_b1765 {X : XT} {D : DT} {l : Launch} {xs : Nat → Int32} {nn : Nat} {K : Int32 → IT → LT → Prop} {X28 : Int32 → IT → LT → Prop} (hf : l.stackTraces = false) (hX : OK X D cL_law "TeaHouseLaw" 10) (hR : Room2 X l D 17 603072 7223402) (hN : NCX X) (hS : ScrAt X D nn xs) (hE : EndAt X D K 603072 7223402) {r28 s28 : Nat} (hx28 : ∀ {c w : Nat}, c + r28 ≤ 603072 → w + s28 ≤ 7223402 → ∀ (v5 : Int32) (I : IT) (L : LT), X28 v5 I L → J2 X D 10 c w I L 28 [.ref 1000300, .ref 0, .ref 190, .ref 195, .ref 196, .int v5, .retAddr 0, .retAddr 0, .retAddr 0, .retAddr 0] []) : ∀ {c w : Nat}, c + (0 + r28) ≤ 603072 → w + (0 + s28) ≤ 7223402 → ∀ (v5 : Int32) (I : IT) (L : LT), f_L_law_b1765 xs nn X28 K v5 I L → J2 X D 10 c w I L 1765 [.ref 1000300, .ref 0, .ref 190, .ref 195, .ref 196, .int v5, .retAddr 0, .retAddr 0, .retAddr 0, .retAddr 0] [] := by
  intro c w hc hw v5 I L h
  rw [f_L_law_b1765] at h
  refine q_aload_n hX dL_law_1765 rfl ?_
  refine q_V_ip hX hR (w_X8_waitingCount  h) lk_L_244 (rc2_of (ci := 9) rfl rfl) dL_law_1766 rfl rfl (Nat.le_of_ble_eq_true rfl) (by omega) (by omega) (by omega) ?_
  intro x1 h
  refine q_aload_n hX dL_law_1769 rfl ?_
  refine q_V_i hX hR (w_X9_waitingCount  h) lk_L_247 (rc2_of (ci := 10) rfl rfl) dL_law_1770 rfl rfl (Nat.le_of_ble_eq_true rfl) (by omega) (by omega) (by omega) ?_
  intro x2 I3 h
  refine q_icmp_eq hX dL_law_1773 (tgt := 3520) (by decide) (fun q4 => ?_) (fun q4 => ?_)
  · replace h := ite_t q4 h
    exact q_dr (w_L_law_b3520 hf hX hR hN hS hE  (r28 := r28) (s28 := s28) hx28  (by omega) (by omega) _ _ _  h) ⟨Or.inl rfl, Or.inl rfl, Or.inl rfl, Or.inl rfl, Or.inl rfl, Or.inl rfl, Or.inl rfl, Or.inl rfl, Or.inl rfl, Or.inl rfl, trivial⟩
  · replace h := ite_f q4 h
    refine q_iconst hX dL_law_1776 (v := (nI 0)) (by decide) ?_
    exact hE dL_law_1777 (by omega) (by omega) h
set_option maxRecDepth 100000 in
set_option maxHeartbeats 4000000 in
theorem w_L_law_b1778 {X : XT} {D : DT} {l : Launch} {xs : Nat → Int32} {nn : Nat} {K : Int32 → IT → LT → Prop} {X28 : Int32 → IT → LT → Prop} (hf : l.stackTraces = false) (hX : OK X D cL_law "TeaHouseLaw" 10) (hR : Room2 X l D 17 603072 7223402) (hN : NCX X) (hS : ScrAt X D nn xs) (hE : EndAt X D K 603072 7223402) {r28 s28 : Nat} (hx28 : ∀ {c w : Nat}, c + r28 ≤ 603072 → w + s28 ≤ 7223402 → ∀ (v5 : Int32) (I : IT) (L : LT), X28 v5 I L → J2 X D 10 c w I L 28 [.ref 1000300, .ref 0, .ref 190, .ref 195, .ref 196, .int v5, .retAddr 0, .retAddr 0, .retAddr 0, .retAddr 0] []) : ∀ {c w : Nat}, c + (1 + r28) ≤ 603072 → w + (6 + s28) ≤ 7223402 → ∀ (v5 : Int32) (I : IT) (L : LT), f_L_law_b1778 xs nn X28 K v5 I L → J2 X D 10 c w I L 1778 [.ref 1000300, .ref 0, .ref 190, .ref 195, .ref 196, .int v5, .retAddr 0, .retAddr 0, .retAddr 0, .retAddr 0] [] := by
  intro c w hc hw v5 I L h
  rw [f_L_law_b1778] at h
  refine q_aload_n hX dL_law_1778 rfl ?_
  refine q_aload_n hX dL_law_1779 rfl ?_
  refine q_iload hX dL_law_1780 rfl ?_
  refine q_iconst hX dL_law_1782 (v := (nI 1)) (by decide) ?_
  refine q_iadd hX dL_law_1783 ?_
  obtain ⟨z1, h⟩ := h
  refine q_sld hX hS dL_law_1784 z1 ?_
  refine q_aload_n hX dL_law_1785 rfl ?_
  refine q_SW hX hR hN (w_L_orderAt hf  h) lk_LW_248 dL_law_1786 rfl rfl (Nat.le_of_ble_eq_true rfl) (by omega) (by omega) (by omega) ?_
  intro x2 I3 L4 h
  refine q_istore hX dL_law_1789 (by decide) (ls' := [_, _, _, _, _, _, _, _, _, _]) rfl ?_
  refine q_aload_n hX dL_law_1791 rfl ?_
  refine q_aload_n hX dL_law_1792 rfl ?_
  refine q_iload hX dL_law_1793 rfl ?_
  refine q_iconst hX dL_law_1795 (v := (nI 1)) (by decide) ?_
  refine q_iadd hX dL_law_1796 ?_
  refine q_sld hX hS dL_law_1797 z1 ?_
  refine q_V_i hX hR (w_X9_orderAt  h) lk_L_250 (rc2_of (ci := 10) rfl rfl) dL_law_1798 rfl rfl (Nat.le_of_ble_eq_true rfl) (by omega) (by omega) (by omega) ?_
  intro x5 I6 h
  refine q_istore hX dL_law_1801 (by decide) (ls' := [_, _, _, _, _, _, _, _, _, _]) rfl ?_
  refine q_aload_n hX dL_law_1803 rfl ?_
  refine q_V_ip hX hR (w_X9_thrown  h) lk_L_166 (rc2_of (ci := 10) rfl rfl) dL_law_1804 rfl rfl (Nat.le_of_ble_eq_true rfl) (by omega) (by omega) (by omega) ?_
  intro x7 h
  refine q_iload hX dL_law_1807 rfl ?_
  refine q_icmp_eq hX dL_law_1809 (tgt := 1814) (by decide) (fun q8 => ?_) (fun q8 => ?_)
  · replace h := ite_t q8 h
    refine q_iload hX dL_law_1814 rfl ?_
    refine q_if_ne hX dL_law_1816 (tgt := 1831) (by decide) (fun q9 => ?_) (fun q9 => ?_)
    · replace h := ite_f q9 h
      refine q_goto hX dL_law_1831 (tgt := 3520) (by decide) ?_
      exact q_dr (w_L_law_b3520 hf hX hR hN hS hE  (r28 := r28) (s28 := s28) hx28  (by omega) (by omega) _ _ _  h) ⟨Or.inl rfl, Or.inl rfl, Or.inl rfl, Or.inl rfl, Or.inl rfl, Or.inl rfl, Or.inr rfl, Or.inr rfl, Or.inl rfl, Or.inl rfl, trivial⟩
    · replace h := ite_t q9 h
      refine q_aload_n hX dL_law_1819 rfl ?_
      refine q_iconst hX dL_law_1820 (v := (nI 0)) (by decide) ?_
      refine q_lald hX dL_law_1821 ?_
      refine q_iload hX dL_law_1822 rfl ?_
      refine q_i2l hX dL_law_1824 rfl ?_
      refine q_lcmp hX dL_law_1825 ?_
      refine q_if_eq hX dL_law_1826 (tgt := 1831) (by decide) (fun q10 => ?_) (fun q10 => ?_)
      · replace h := ite_t q10 h
        refine q_goto hX dL_law_1831 (tgt := 3520) (by decide) ?_
        exact q_dr (w_L_law_b3520 hf hX hR hN hS hE  (r28 := r28) (s28 := s28) hx28  (by omega) (by omega) _ _ _  h) ⟨Or.inl rfl, Or.inl rfl, Or.inl rfl, Or.inl rfl, Or.inl rfl, Or.inl rfl, Or.inr rfl, Or.inr rfl, Or.inl rfl, Or.inl rfl, trivial⟩
      · replace h := ite_f q10 h
        refine q_iconst hX dL_law_1829 (v := (nI 0)) (by decide) ?_
        exact hE dL_law_1830 (by omega) (by omega) h
  · replace h := ite_f q8 h
    refine q_iconst hX dL_law_1812 (v := (nI 0)) (by decide) ?_
    exact hE dL_law_1813 (by omega) (by omega) h
set_option maxRecDepth 100000 in
set_option maxHeartbeats 4000000 in
theorem w_L_law_b1834 {X : XT} {D : DT} {l : Launch} {xs : Nat → Int32} {nn : Nat} {K : Int32 → IT → LT → Prop} {X28 : Int32 → IT → LT → Prop} (hf : l.stackTraces = false) (hX : OK X D cL_law "TeaHouseLaw" 10) (hR : Room2 X l D 17 603072 7223402) (hN : NCX X) (hS : ScrAt X D nn xs) (hE : EndAt X D K 603072 7223402) {r28 s28 : Nat} (hx28 : ∀ {c w : Nat}, c + r28 ≤ 603072 → w + s28 ≤ 7223402 → ∀ (v5 : Int32) (I : IT) (L : LT), X28 v5 I L → J2 X D 10 c w I L 28 [.ref 1000300, .ref 0, .ref 190, .ref 195, .ref 196, .int v5, .retAddr 0, .retAddr 0, .retAddr 0, .retAddr 0] []) : ∀ {c w : Nat}, c + (1 + r28) ≤ 603072 → w + (6 + s28) ≤ 7223402 → ∀ (v5 : Int32) (I : IT) (L : LT), f_L_law_b1834 xs nn X28 K v5 I L → J2 X D 10 c w I L 1834 [.ref 1000300, .ref 0, .ref 190, .ref 195, .ref 196, .int v5, .retAddr 0, .retAddr 0, .retAddr 0, .retAddr 0] [] := by
  intro c w hc hw v5 I L h
  rw [f_L_law_b1834] at h
  refine q_aload_n hX dL_law_1834 rfl ?_
  refine q_aload_n hX dL_law_1835 rfl ?_
  refine q_iload hX dL_law_1836 rfl ?_
  refine q_iconst hX dL_law_1838 (v := (nI 1)) (by decide) ?_
  refine q_iadd hX dL_law_1839 ?_
  obtain ⟨z1, h⟩ := h
  refine q_sld hX hS dL_law_1840 z1 ?_
  refine q_aload_n hX dL_law_1841 rfl ?_
  refine q_SW hX hR hN (w_L_positionOf hf  h) lk_LW_251 dL_law_1842 rfl rfl (Nat.le_of_ble_eq_true rfl) (by omega) (by omega) (by omega) ?_
  intro x2 I3 L4 h
  refine q_istore hX dL_law_1845 (by decide) (ls' := [_, _, _, _, _, _, _, _, _, _]) rfl ?_
  refine q_aload_n hX dL_law_1847 rfl ?_
  refine q_aload_n hX dL_law_1848 rfl ?_
  refine q_iload hX dL_law_1849 rfl ?_
  refine q_iconst hX dL_law_1851 (v := (nI 1)) (by decide) ?_
  refine q_iadd hX dL_law_1852 ?_
  refine q_sld hX hS dL_law_1853 z1 ?_
  refine q_V_i hX hR (w_X9_positionOf  h) lk_L_253 (rc2_of (ci := 10) rfl rfl) dL_law_1854 rfl rfl (Nat.le_of_ble_eq_true rfl) (by omega) (by omega) (by omega) ?_
  intro x5 I6 h
  refine q_istore hX dL_law_1857 (by decide) (ls' := [_, _, _, _, _, _, _, _, _, _]) rfl ?_
  refine q_aload_n hX dL_law_1859 rfl ?_
  refine q_V_ip hX hR (w_X9_thrown  h) lk_L_166 (rc2_of (ci := 10) rfl rfl) dL_law_1860 rfl rfl (Nat.le_of_ble_eq_true rfl) (by omega) (by omega) (by omega) ?_
  intro x7 h
  refine q_iload hX dL_law_1863 rfl ?_
  refine q_icmp_eq hX dL_law_1865 (tgt := 1870) (by decide) (fun q8 => ?_) (fun q8 => ?_)
  · replace h := ite_t q8 h
    refine q_iload hX dL_law_1870 rfl ?_
    refine q_if_ne hX dL_law_1872 (tgt := 1887) (by decide) (fun q9 => ?_) (fun q9 => ?_)
    · replace h := ite_f q9 h
      refine q_goto hX dL_law_1887 (tgt := 3520) (by decide) ?_
      exact q_dr (w_L_law_b3520 hf hX hR hN hS hE  (r28 := r28) (s28 := s28) hx28  (by omega) (by omega) _ _ _  h) ⟨Or.inl rfl, Or.inl rfl, Or.inl rfl, Or.inl rfl, Or.inl rfl, Or.inl rfl, Or.inr rfl, Or.inr rfl, Or.inl rfl, Or.inl rfl, trivial⟩
    · replace h := ite_t q9 h
      refine q_aload_n hX dL_law_1875 rfl ?_
      refine q_iconst hX dL_law_1876 (v := (nI 0)) (by decide) ?_
      refine q_lald hX dL_law_1877 ?_
      refine q_iload hX dL_law_1878 rfl ?_
      refine q_i2l hX dL_law_1880 rfl ?_
      refine q_lcmp hX dL_law_1881 ?_
      refine q_if_eq hX dL_law_1882 (tgt := 1887) (by decide) (fun q10 => ?_) (fun q10 => ?_)
      · replace h := ite_t q10 h
        refine q_goto hX dL_law_1887 (tgt := 3520) (by decide) ?_
        exact q_dr (w_L_law_b3520 hf hX hR hN hS hE  (r28 := r28) (s28 := s28) hx28  (by omega) (by omega) _ _ _  h) ⟨Or.inl rfl, Or.inl rfl, Or.inl rfl, Or.inl rfl, Or.inl rfl, Or.inl rfl, Or.inr rfl, Or.inr rfl, Or.inl rfl, Or.inl rfl, trivial⟩
      · replace h := ite_f q10 h
        refine q_iconst hX dL_law_1885 (v := (nI 0)) (by decide) ?_
        exact hE dL_law_1886 (by omega) (by omega) h
  · replace h := ite_f q8 h
    refine q_iconst hX dL_law_1868 (v := (nI 0)) (by decide) ?_
    exact hE dL_law_1869 (by omega) (by omega) h
set_option maxRecDepth 100000 in
set_option maxHeartbeats 4000000 in
theorem w_L_law_b1890 {X : XT} {D : DT} {l : Launch} {xs : Nat → Int32} {nn : Nat} {K : Int32 → IT → LT → Prop} {X28 : Int32 → IT → LT → Prop} (hf : l.stackTraces = false) (hX : OK X D cL_law "TeaHouseLaw" 10) (hR : Room2 X l D 17 603072 7223402) (hN : NCX X) (hS : ScrAt X D nn xs) (hE : EndAt X D K 603072 7223402) {r28 s28 : Nat} (hx28 : ∀ {c w : Nat}, c + r28 ≤ 603072 → w + s28 ≤ 7223402 → ∀ (v5 : Int32) (I : IT) (L : LT), X28 v5 I L → J2 X D 10 c w I L 28 [.ref 1000300, .ref 0, .ref 190, .ref 195, .ref 196, .int v5, .retAddr 0, .retAddr 0, .retAddr 0, .retAddr 0] []) : ∀ {c w : Nat}, c + (1 + r28) ≤ 603072 → w + (6 + s28) ≤ 7223402 → ∀ (v5 : Int32) (I : IT) (L : LT), f_L_law_b1890 xs nn X28 K v5 I L → J2 X D 10 c w I L 1890 [.ref 1000300, .ref 0, .ref 190, .ref 195, .ref 196, .int v5, .retAddr 0, .retAddr 0, .retAddr 0, .retAddr 0] [] := by
  intro c w hc hw v5 I L h
  rw [f_L_law_b1890] at h
  refine q_aload_n hX dL_law_1890 rfl ?_
  refine q_aload_n hX dL_law_1891 rfl ?_
  refine q_iload hX dL_law_1892 rfl ?_
  refine q_iconst hX dL_law_1894 (v := (nI 1)) (by decide) ?_
  refine q_iadd hX dL_law_1895 ?_
  obtain ⟨z1, h⟩ := h
  refine q_sld hX hS dL_law_1896 z1 ?_
  refine q_aload_n hX dL_law_1897 rfl ?_
  refine q_SW hX hR hN (w_L_cupsOf hf  h) lk_LW_254 dL_law_1898 rfl rfl (Nat.le_of_ble_eq_true rfl) (by omega) (by omega) (by omega) ?_
  intro x2 I3 L4 h
  refine q_istore hX dL_law_1901 (by decide) (ls' := [_, _, _, _, _, _, _, _, _, _]) rfl ?_
  refine q_aload_n hX dL_law_1903 rfl ?_
  refine q_aload_n hX dL_law_1904 rfl ?_
  refine q_iload hX dL_law_1905 rfl ?_
  refine q_iconst hX dL_law_1907 (v := (nI 1)) (by decide) ?_
  refine q_iadd hX dL_law_1908 ?_
  refine q_sld hX hS dL_law_1909 z1 ?_
  refine q_V_i hX hR (w_X9_cupsOf  h) lk_L_256 (rc2_of (ci := 10) rfl rfl) dL_law_1910 rfl rfl (Nat.le_of_ble_eq_true rfl) (by omega) (by omega) (by omega) ?_
  intro x5 I6 h
  refine q_istore hX dL_law_1913 (by decide) (ls' := [_, _, _, _, _, _, _, _, _, _]) rfl ?_
  refine q_aload_n hX dL_law_1915 rfl ?_
  refine q_V_ip hX hR (w_X9_thrown  h) lk_L_166 (rc2_of (ci := 10) rfl rfl) dL_law_1916 rfl rfl (Nat.le_of_ble_eq_true rfl) (by omega) (by omega) (by omega) ?_
  intro x7 h
  refine q_iload hX dL_law_1919 rfl ?_
  refine q_icmp_eq hX dL_law_1921 (tgt := 1926) (by decide) (fun q8 => ?_) (fun q8 => ?_)
  · replace h := ite_t q8 h
    refine q_iload hX dL_law_1926 rfl ?_
    refine q_if_ne hX dL_law_1928 (tgt := 1943) (by decide) (fun q9 => ?_) (fun q9 => ?_)
    · replace h := ite_f q9 h
      refine q_goto hX dL_law_1943 (tgt := 3520) (by decide) ?_
      exact q_dr (w_L_law_b3520 hf hX hR hN hS hE  (r28 := r28) (s28 := s28) hx28  (by omega) (by omega) _ _ _  h) ⟨Or.inl rfl, Or.inl rfl, Or.inl rfl, Or.inl rfl, Or.inl rfl, Or.inl rfl, Or.inr rfl, Or.inr rfl, Or.inl rfl, Or.inl rfl, trivial⟩
    · replace h := ite_t q9 h
      refine q_aload_n hX dL_law_1931 rfl ?_
      refine q_iconst hX dL_law_1932 (v := (nI 0)) (by decide) ?_
      refine q_lald hX dL_law_1933 ?_
      refine q_iload hX dL_law_1934 rfl ?_
      refine q_i2l hX dL_law_1936 rfl ?_
      refine q_lcmp hX dL_law_1937 ?_
      refine q_if_eq hX dL_law_1938 (tgt := 1943) (by decide) (fun q10 => ?_) (fun q10 => ?_)
      · replace h := ite_t q10 h
        refine q_goto hX dL_law_1943 (tgt := 3520) (by decide) ?_
        exact q_dr (w_L_law_b3520 hf hX hR hN hS hE  (r28 := r28) (s28 := s28) hx28  (by omega) (by omega) _ _ _  h) ⟨Or.inl rfl, Or.inl rfl, Or.inl rfl, Or.inl rfl, Or.inl rfl, Or.inl rfl, Or.inr rfl, Or.inr rfl, Or.inl rfl, Or.inl rfl, trivial⟩
      · replace h := ite_f q10 h
        refine q_iconst hX dL_law_1941 (v := (nI 0)) (by decide) ?_
        exact hE dL_law_1942 (by omega) (by omega) h
  · replace h := ite_f q8 h
    refine q_iconst hX dL_law_1924 (v := (nI 0)) (by decide) ?_
    exact hE dL_law_1925 (by omega) (by omega) h
set_option maxRecDepth 100000 in
set_option maxHeartbeats 4000000 in
theorem w_L_law_b1946 {X : XT} {D : DT} {l : Launch} {xs : Nat → Int32} {nn : Nat} {K : Int32 → IT → LT → Prop} {X28 : Int32 → IT → LT → Prop} (hf : l.stackTraces = false) (hX : OK X D cL_law "TeaHouseLaw" 10) (hR : Room2 X l D 17 603072 7223402) (hN : NCX X) (hS : ScrAt X D nn xs) (hE : EndAt X D K 603072 7223402) {r28 s28 : Nat} (hx28 : ∀ {c w : Nat}, c + r28 ≤ 603072 → w + s28 ≤ 7223402 → ∀ (v5 : Int32) (I : IT) (L : LT), X28 v5 I L → J2 X D 10 c w I L 28 [.ref 1000300, .ref 0, .ref 190, .ref 195, .ref 196, .int v5, .retAddr 0, .retAddr 0, .retAddr 0, .retAddr 0] []) : ∀ {c w : Nat}, c + (1 + r28) ≤ 603072 → w + (6 + s28) ≤ 7223402 → ∀ (v5 : Int32) (I : IT) (L : LT), f_L_law_b1946 xs nn X28 K v5 I L → J2 X D 10 c w I L 1946 [.ref 1000300, .ref 0, .ref 190, .ref 195, .ref 196, .int v5, .retAddr 0, .retAddr 0, .retAddr 0, .retAddr 0] [] := by
  intro c w hc hw v5 I L h
  rw [f_L_law_b1946] at h
  refine q_aload_n hX dL_law_1946 rfl ?_
  refine q_aload_n hX dL_law_1947 rfl ?_
  refine q_iload hX dL_law_1948 rfl ?_
  refine q_iconst hX dL_law_1950 (v := (nI 1)) (by decide) ?_
  refine q_iadd hX dL_law_1951 ?_
  obtain ⟨z1, h⟩ := h
  refine q_sld hX hS dL_law_1952 z1 ?_
  refine q_aload hX dL_law_1953 rfl ?_
  refine q_SW hX hR hN (w_L_priceOf hf  h) lk_LW_257 dL_law_1955 rfl rfl (Nat.le_of_ble_eq_true rfl) (by omega) (by omega) (by omega) ?_
  intro x2 I3 L4 h
  refine q_istore hX dL_law_1958 (by decide) (ls' := [_, _, _, _, _, _, _, _, _, _]) rfl ?_
  refine q_aload_n hX dL_law_1960 rfl ?_
  refine q_aload_n hX dL_law_1961 rfl ?_
  refine q_iload hX dL_law_1962 rfl ?_
  refine q_iconst hX dL_law_1964 (v := (nI 1)) (by decide) ?_
  refine q_iadd hX dL_law_1965 ?_
  refine q_sld hX hS dL_law_1966 z1 ?_
  refine q_V_f hX hR (w_X9_priceOf  h) lk_L_259 (rc2_of (ci := 10) rfl rfl) dL_law_1967 rfl rfl (Nat.le_of_ble_eq_true rfl) (by omega) (by omega) (by omega) ?_
  intro x5 I6 h
  refine q_fstore hX dL_law_1970 (by decide) (ls' := [_, _, _, _, _, _, _, _, _, _]) rfl ?_
  refine q_aload_n hX dL_law_1972 rfl ?_
  refine q_V_ip hX hR (w_X9_thrown  h) lk_L_166 (rc2_of (ci := 10) rfl rfl) dL_law_1973 rfl rfl (Nat.le_of_ble_eq_true rfl) (by omega) (by omega) (by omega) ?_
  intro x7 h
  refine q_iload hX dL_law_1976 rfl ?_
  refine q_icmp_eq hX dL_law_1978 (tgt := 1983) (by decide) (fun q8 => ?_) (fun q8 => ?_)
  · replace h := ite_t q8 h
    refine q_iload hX dL_law_1983 rfl ?_
    refine q_if_ne hX dL_law_1985 (tgt := 2021) (by decide) (fun q9 => ?_) (fun q9 => ?_)
    · replace h := ite_f q9 h
      refine q_goto hX dL_law_2021 (tgt := 3520) (by decide) ?_
      exact q_dr (w_L_law_b3520 hf hX hR hN hS hE  (r28 := r28) (s28 := s28) hx28  (by omega) (by omega) _ _ _  h) ⟨Or.inl rfl, Or.inl rfl, Or.inl rfl, Or.inl rfl, Or.inl rfl, Or.inl rfl, Or.inr rfl, Or.inr rfl, Or.inl rfl, Or.inl rfl, trivial⟩
    · replace h := ite_t q9 h
      refine q_aload hX dL_law_1988 rfl ?_
      refine q_iconst hX dL_law_1990 (v := (nI 0)) (by decide) ?_
      refine q_dald hX dL_law_1991 ?_
      refine q_fload hX dL_law_1992 rfl ?_
      obtain ⟨z10, h⟩ := h
      refine q_f2d hX dL_law_1994 z10 ?_
      refine q_dcmp hX dL_law_1995 ?_
      refine q_if_eq hX dL_law_1996 (tgt := 2021) (by decide) (fun q11 => ?_) (fun q11 => ?_)
      · replace h := ite_t q11 h
        refine q_goto hX dL_law_2021 (tgt := 3520) (by decide) ?_
        exact q_dr (w_L_law_b3520 hf hX hR hN hS hE  (r28 := r28) (s28 := s28) hx28  (by omega) (by omega) _ _ _  h) ⟨Or.inl rfl, Or.inl rfl, Or.inl rfl, Or.inl rfl, Or.inl rfl, Or.inl rfl, Or.inr rfl, Or.inr rfl, Or.inl rfl, Or.inl rfl, trivial⟩
      · replace h := ite_f q11 h
        refine q_aload hX dL_law_1999 rfl ?_
        refine q_iconst hX dL_law_2001 (v := (nI 0)) (by decide) ?_
        refine q_dald hX dL_law_2002 ?_
        refine q_aload hX dL_law_2003 rfl ?_
        refine q_iconst hX dL_law_2005 (v := (nI 0)) (by decide) ?_
        refine q_dald hX dL_law_2006 ?_
        refine q_dcmp hX dL_law_2007 ?_
        refine q_if_eq hX dL_law_2008 (tgt := 2019) (by decide) (fun q12 => ?_) (fun q12 => ?_)
        · replace h := ite_t q12 h
          refine q_iconst hX dL_law_2019 (v := (nI 0)) (by decide) ?_
          exact hE dL_law_2020 (by omega) (by omega) h
        · replace h := ite_f q12 h
          refine q_fload hX dL_law_2011 rfl ?_
          refine q_fload hX dL_law_2013 rfl ?_
          refine q_fcmp hX dL_law_2015 ?_
          refine q_if_ne hX dL_law_2016 (tgt := 2021) (by decide) (fun q13 => ?_) (fun q13 => ?_)
          · replace h := ite_f q13 h
            refine q_goto hX dL_law_2021 (tgt := 3520) (by decide) ?_
            exact q_dr (w_L_law_b3520 hf hX hR hN hS hE  (r28 := r28) (s28 := s28) hx28  (by omega) (by omega) _ _ _  h) ⟨Or.inl rfl, Or.inl rfl, Or.inl rfl, Or.inl rfl, Or.inl rfl, Or.inl rfl, Or.inr rfl, Or.inr rfl, Or.inl rfl, Or.inl rfl, trivial⟩
          · replace h := ite_t q13 h
            refine q_iconst hX dL_law_2019 (v := (nI 0)) (by decide) ?_
            exact hE dL_law_2020 (by omega) (by omega) h
  · replace h := ite_f q8 h
    refine q_iconst hX dL_law_1981 (v := (nI 0)) (by decide) ?_
    exact hE dL_law_1982 (by omega) (by omega) h
set_option maxRecDepth 100000 in
set_option maxHeartbeats 4000000 in
theorem w_L_law_b2024 {X : XT} {D : DT} {l : Launch} {xs : Nat → Int32} {nn : Nat} {K : Int32 → IT → LT → Prop} {X28 : Int32 → IT → LT → Prop} (hf : l.stackTraces = false) (hX : OK X D cL_law "TeaHouseLaw" 10) (hR : Room2 X l D 17 603072 7223402) (hN : NCX X) (hS : ScrAt X D nn xs) (hE : EndAt X D K 603072 7223402) {r28 s28 : Nat} (hx28 : ∀ {c w : Nat}, c + r28 ≤ 603072 → w + s28 ≤ 7223402 → ∀ (v5 : Int32) (I : IT) (L : LT), X28 v5 I L → J2 X D 10 c w I L 28 [.ref 1000300, .ref 0, .ref 190, .ref 195, .ref 196, .int v5, .retAddr 0, .retAddr 0, .retAddr 0, .retAddr 0] []) : ∀ {c w : Nat}, c + (2 + r28) ≤ 603072 → w + (12 + s28) ≤ 7223402 → ∀ (v5 : Int32) (I : IT) (L : LT), f_L_law_b2024 xs nn X28 K v5 I L → J2 X D 10 c w I L 2024 [.ref 1000300, .ref 0, .ref 190, .ref 195, .ref 196, .int v5, .retAddr 0, .retAddr 0, .retAddr 0, .retAddr 0] [] := by
  intro c w hc hw v5 I L h
  rw [f_L_law_b2024] at h
  refine q_aload_n hX dL_law_2024 rfl ?_
  refine q_aload_n hX dL_law_2025 rfl ?_
  refine q_iload hX dL_law_2026 rfl ?_
  refine q_iconst hX dL_law_2028 (v := (nI 1)) (by decide) ?_
  refine q_iadd hX dL_law_2029 ?_
  obtain ⟨z1, h⟩ := h
  refine q_sld hX hS dL_law_2030 z1 ?_
  refine q_aload_n hX dL_law_2031 rfl ?_
  refine q_SW hX hR hN (w_L_kettleFor hf  h) lk_LW_260 dL_law_2032 rfl rfl (Nat.le_of_ble_eq_true rfl) (by omega) (by omega) (by omega) ?_
  intro x2 I3 L4 h
  refine q_istore hX dL_law_2035 (by decide) (ls' := [_, _, _, _, _, _, _, _, _, _]) rfl ?_
  refine q_aload_n hX dL_law_2037 rfl ?_
  refine q_aload_n hX dL_law_2038 rfl ?_
  refine q_iload hX dL_law_2039 rfl ?_
  refine q_iconst hX dL_law_2041 (v := (nI 1)) (by decide) ?_
  refine q_iadd hX dL_law_2042 ?_
  refine q_sld hX hS dL_law_2043 z1 ?_
  refine q_V_i hX hR (w_X9_kettleFor  h) lk_L_262 (rc2_of (ci := 10) rfl rfl) dL_law_2044 rfl rfl (Nat.le_of_ble_eq_true rfl) (by omega) (by omega) (by omega) ?_
  intro x5 I6 h
  refine q_istore hX dL_law_2047 (by decide) (ls' := [_, _, _, _, _, _, _, _, _, _]) rfl ?_
  refine q_aload_n hX dL_law_2049 rfl ?_
  refine q_V_ip hX hR (w_X9_thrown  h) lk_L_166 (rc2_of (ci := 10) rfl rfl) dL_law_2050 rfl rfl (Nat.le_of_ble_eq_true rfl) (by omega) (by omega) (by omega) ?_
  intro x7 h
  refine q_iload hX dL_law_2053 rfl ?_
  refine q_icmp_eq hX dL_law_2055 (tgt := 2060) (by decide) (fun q8 => ?_) (fun q8 => ?_)
  · replace h := ite_t q8 h
    refine q_iload hX dL_law_2060 rfl ?_
    refine q_if_ne hX dL_law_2062 (tgt := 2077) (by decide) (fun q9 => ?_) (fun q9 => ?_)
    · replace h := ite_f q9 h
      refine q_goto hX dL_law_2077 (tgt := 3520) (by decide) ?_
      exact q_dr (w_L_law_b3520 hf hX hR hN hS hE  (r28 := r28) (s28 := s28) hx28  (by omega) (by omega) _ _ _  h) ⟨Or.inl rfl, Or.inl rfl, Or.inl rfl, Or.inl rfl, Or.inl rfl, Or.inl rfl, Or.inr rfl, Or.inr rfl, Or.inl rfl, Or.inl rfl, trivial⟩
    · replace h := ite_t q9 h
      refine q_aload_n hX dL_law_2065 rfl ?_
      refine q_iconst hX dL_law_2066 (v := (nI 0)) (by decide) ?_
      refine q_lald hX dL_law_2067 ?_
      refine q_iload hX dL_law_2068 rfl ?_
      refine q_i2l hX dL_law_2070 rfl ?_
      refine q_lcmp hX dL_law_2071 ?_
      refine q_if_eq hX dL_law_2072 (tgt := 2077) (by decide) (fun q10 => ?_) (fun q10 => ?_)
      · replace h := ite_t q10 h
        refine q_goto hX dL_law_2077 (tgt := 3520) (by decide) ?_
        exact q_dr (w_L_law_b3520 hf hX hR hN hS hE  (r28 := r28) (s28 := s28) hx28  (by omega) (by omega) _ _ _  h) ⟨Or.inl rfl, Or.inl rfl, Or.inl rfl, Or.inl rfl, Or.inl rfl, Or.inl rfl, Or.inr rfl, Or.inr rfl, Or.inl rfl, Or.inl rfl, trivial⟩
      · replace h := ite_f q10 h
        refine q_iconst hX dL_law_2075 (v := (nI 0)) (by decide) ?_
        exact hE dL_law_2076 (by omega) (by omega) h
  · replace h := ite_f q8 h
    refine q_iconst hX dL_law_2058 (v := (nI 0)) (by decide) ?_
    exact hE dL_law_2059 (by omega) (by omega) h
set_option maxRecDepth 100000 in
set_option maxHeartbeats 4000000 in
theorem w_L_law_b2080 {X : XT} {D : DT} {l : Launch} {xs : Nat → Int32} {nn : Nat} {K : Int32 → IT → LT → Prop} {X28 : Int32 → IT → LT → Prop} (hf : l.stackTraces = false) (hX : OK X D cL_law "TeaHouseLaw" 10) (hR : Room2 X l D 17 603072 7223402) (hN : NCX X) (hS : ScrAt X D nn xs) (hE : EndAt X D K 603072 7223402) {r28 s28 : Nat} (hx28 : ∀ {c w : Nat}, c + r28 ≤ 603072 → w + s28 ≤ 7223402 → ∀ (v5 : Int32) (I : IT) (L : LT), X28 v5 I L → J2 X D 10 c w I L 28 [.ref 1000300, .ref 0, .ref 190, .ref 195, .ref 196, .int v5, .retAddr 0, .retAddr 0, .retAddr 0, .retAddr 0] []) : ∀ {c w : Nat}, c + (2 + r28) ≤ 603072 → w + (12 + s28) ≤ 7223402 → ∀ (v5 : Int32) (I : IT) (L : LT), f_L_law_b2080 xs nn X28 K v5 I L → J2 X D 10 c w I L 2080 [.ref 1000300, .ref 0, .ref 190, .ref 195, .ref 196, .int v5, .retAddr 0, .retAddr 0, .retAddr 0, .retAddr 0] [] := by
  intro c w hc hw v5 I L h
  rw [f_L_law_b2080] at h
  refine q_aload_n hX dL_law_2080 rfl ?_
  refine q_aload_n hX dL_law_2081 rfl ?_
  refine q_iload hX dL_law_2082 rfl ?_
  refine q_iconst hX dL_law_2084 (v := (nI 1)) (by decide) ?_
  refine q_iadd hX dL_law_2085 ?_
  obtain ⟨z1, h⟩ := h
  refine q_sld hX hS dL_law_2086 z1 ?_
  refine q_aload_n hX dL_law_2087 rfl ?_
  refine q_SW hX hR hN (w_L_minutesUntilSuitable hf  h) lk_LW_263 dL_law_2088 rfl rfl (Nat.le_of_ble_eq_true rfl) (by omega) (by omega) (by omega) ?_
  intro x2 I3 L4 h
  refine q_istore hX dL_law_2091 (by decide) (ls' := [_, _, _, _, _, _, _, _, _, _]) rfl ?_
  refine q_aload_n hX dL_law_2093 rfl ?_
  refine q_aload_n hX dL_law_2094 rfl ?_
  refine q_iload hX dL_law_2095 rfl ?_
  refine q_iconst hX dL_law_2097 (v := (nI 1)) (by decide) ?_
  refine q_iadd hX dL_law_2098 ?_
  refine q_sld hX hS dL_law_2099 z1 ?_
  refine q_V_i hX hR (w_X9_minutesUntilSuitable  h) lk_L_265 (rc2_of (ci := 10) rfl rfl) dL_law_2100 rfl rfl (Nat.le_of_ble_eq_true rfl) (by omega) (by omega) (by omega) ?_
  intro x5 I6 h
  refine q_istore hX dL_law_2103 (by decide) (ls' := [_, _, _, _, _, _, _, _, _, _]) rfl ?_
  refine q_aload_n hX dL_law_2105 rfl ?_
  refine q_V_ip hX hR (w_X9_thrown  h) lk_L_166 (rc2_of (ci := 10) rfl rfl) dL_law_2106 rfl rfl (Nat.le_of_ble_eq_true rfl) (by omega) (by omega) (by omega) ?_
  intro x7 h
  refine q_iload hX dL_law_2109 rfl ?_
  refine q_icmp_eq hX dL_law_2111 (tgt := 2116) (by decide) (fun q8 => ?_) (fun q8 => ?_)
  · replace h := ite_t q8 h
    refine q_iload hX dL_law_2116 rfl ?_
    refine q_if_ne hX dL_law_2118 (tgt := 2133) (by decide) (fun q9 => ?_) (fun q9 => ?_)
    · replace h := ite_f q9 h
      refine q_goto hX dL_law_2133 (tgt := 3520) (by decide) ?_
      exact q_dr (w_L_law_b3520 hf hX hR hN hS hE  (r28 := r28) (s28 := s28) hx28  (by omega) (by omega) _ _ _  h) ⟨Or.inl rfl, Or.inl rfl, Or.inl rfl, Or.inl rfl, Or.inl rfl, Or.inl rfl, Or.inr rfl, Or.inr rfl, Or.inl rfl, Or.inl rfl, trivial⟩
    · replace h := ite_t q9 h
      refine q_aload_n hX dL_law_2121 rfl ?_
      refine q_iconst hX dL_law_2122 (v := (nI 0)) (by decide) ?_
      refine q_lald hX dL_law_2123 ?_
      refine q_iload hX dL_law_2124 rfl ?_
      refine q_i2l hX dL_law_2126 rfl ?_
      refine q_lcmp hX dL_law_2127 ?_
      refine q_if_eq hX dL_law_2128 (tgt := 2133) (by decide) (fun q10 => ?_) (fun q10 => ?_)
      · replace h := ite_t q10 h
        refine q_goto hX dL_law_2133 (tgt := 3520) (by decide) ?_
        exact q_dr (w_L_law_b3520 hf hX hR hN hS hE  (r28 := r28) (s28 := s28) hx28  (by omega) (by omega) _ _ _  h) ⟨Or.inl rfl, Or.inl rfl, Or.inl rfl, Or.inl rfl, Or.inl rfl, Or.inl rfl, Or.inr rfl, Or.inr rfl, Or.inl rfl, Or.inl rfl, trivial⟩
      · replace h := ite_f q10 h
        refine q_iconst hX dL_law_2131 (v := (nI 0)) (by decide) ?_
        exact hE dL_law_2132 (by omega) (by omega) h
  · replace h := ite_f q8 h
    refine q_iconst hX dL_law_2114 (v := (nI 0)) (by decide) ?_
    exact hE dL_law_2115 (by omega) (by omega) h
set_option maxRecDepth 100000 in
set_option maxHeartbeats 4000000 in
theorem w_L_law_b2136 {X : XT} {D : DT} {l : Launch} {xs : Nat → Int32} {nn : Nat} {K : Int32 → IT → LT → Prop} {X28 : Int32 → IT → LT → Prop} (hf : l.stackTraces = false) (hX : OK X D cL_law "TeaHouseLaw" 10) (hR : Room2 X l D 17 603072 7223402) (hN : NCX X) (hS : ScrAt X D nn xs) (hE : EndAt X D K 603072 7223402) {r28 s28 : Nat} (hx28 : ∀ {c w : Nat}, c + r28 ≤ 603072 → w + s28 ≤ 7223402 → ∀ (v5 : Int32) (I : IT) (L : LT), X28 v5 I L → J2 X D 10 c w I L 28 [.ref 1000300, .ref 0, .ref 190, .ref 195, .ref 196, .int v5, .retAddr 0, .retAddr 0, .retAddr 0, .retAddr 0] []) : ∀ {c w : Nat}, c + (0 + r28) ≤ 603072 → w + (0 + s28) ≤ 7223402 → ∀ (v5 : Int32) (I : IT) (L : LT), f_L_law_b2136 xs nn X28 K v5 I L → J2 X D 10 c w I L 2136 [.ref 1000300, .ref 0, .ref 190, .ref 195, .ref 196, .int v5, .retAddr 0, .retAddr 0, .retAddr 0, .retAddr 0] [] := by
  intro c w hc hw v5 I L h
  rw [f_L_law_b2136] at h
  refine q_aload_n hX dL_law_2136 rfl ?_
  refine q_V_zp hX hR (w_X8_canServe  h) lk_L_266 (rc2_of (ci := 9) rfl rfl) dL_law_2137 rfl rfl (Nat.le_of_ble_eq_true rfl) (by omega) (by omega) (by omega) ?_
  intro x1 hrx1 h
  refine q_aload_n hX dL_law_2140 rfl ?_
  refine q_V_z hX hR (w_X9_canServe  h) lk_L_270 (rc2_of (ci := 10) rfl rfl) dL_law_2141 rfl rfl (Nat.le_of_ble_eq_true rfl) (by omega) (by omega) (by omega) ?_
  intro x2 I3 hrx2 h
  refine q_icmp_eq hX dL_law_2144 (tgt := 3520) (by decide) (fun q4 => ?_) (fun q4 => ?_)
  · replace h := ite_t q4 h
    exact q_dr (w_L_law_b3520 hf hX hR hN hS hE  (r28 := r28) (s28 := s28) hx28  (by omega) (by omega) _ _ _  h) ⟨Or.inl rfl, Or.inl rfl, Or.inl rfl, Or.inl rfl, Or.inl rfl, Or.inl rfl, Or.inl rfl, Or.inl rfl, Or.inl rfl, Or.inl rfl, trivial⟩
  · replace h := ite_f q4 h
    refine q_iconst hX dL_law_2147 (v := (nI 0)) (by decide) ?_
    exact hE dL_law_2148 (by omega) (by omega) h
set_option maxRecDepth 100000 in
set_option maxHeartbeats 4000000 in
theorem w_L_law_b2149 {X : XT} {D : DT} {l : Launch} {xs : Nat → Int32} {nn : Nat} {K : Int32 → IT → LT → Prop} {X28 : Int32 → IT → LT → Prop} (hf : l.stackTraces = false) (hX : OK X D cL_law "TeaHouseLaw" 10) (hR : Room2 X l D 17 603072 7223402) (hN : NCX X) (hS : ScrAt X D nn xs) (hE : EndAt X D K 603072 7223402) {r28 s28 : Nat} (hx28 : ∀ {c w : Nat}, c + r28 ≤ 603072 → w + s28 ≤ 7223402 → ∀ (v5 : Int32) (I : IT) (L : LT), X28 v5 I L → J2 X D 10 c w I L 28 [.ref 1000300, .ref 0, .ref 190, .ref 195, .ref 196, .int v5, .retAddr 0, .retAddr 0, .retAddr 0, .retAddr 0] []) : ∀ {c w : Nat}, c + (0 + r28) ≤ 603072 → w + (0 + s28) ≤ 7223402 → ∀ (v5 : Int32) (I : IT) (L : LT), f_L_law_b2149 xs nn X28 K v5 I L → J2 X D 10 c w I L 2149 [.ref 1000300, .ref 0, .ref 190, .ref 195, .ref 196, .int v5, .retAddr 0, .retAddr 0, .retAddr 0, .retAddr 0] [] := by
  intro c w hc hw v5 I L h
  rw [f_L_law_b2149] at h
  refine q_aload_n hX dL_law_2149 rfl ?_
  refine q_V_ip hX hR (w_X8_cleanCups  h) lk_L_271 (rc2_of (ci := 9) rfl rfl) dL_law_2150 rfl rfl (Nat.le_of_ble_eq_true rfl) (by omega) (by omega) (by omega) ?_
  intro x1 h
  refine q_aload_n hX dL_law_2153 rfl ?_
  refine q_V_i hX hR (w_X9_cleanCups  h) lk_L_274 (rc2_of (ci := 10) rfl rfl) dL_law_2154 rfl rfl (Nat.le_of_ble_eq_true rfl) (by omega) (by omega) (by omega) ?_
  intro x2 I3 h
  refine q_icmp_eq hX dL_law_2157 (tgt := 3520) (by decide) (fun q4 => ?_) (fun q4 => ?_)
  · replace h := ite_t q4 h
    exact q_dr (w_L_law_b3520 hf hX hR hN hS hE  (r28 := r28) (s28 := s28) hx28  (by omega) (by omega) _ _ _  h) ⟨Or.inl rfl, Or.inl rfl, Or.inl rfl, Or.inl rfl, Or.inl rfl, Or.inl rfl, Or.inl rfl, Or.inl rfl, Or.inl rfl, Or.inl rfl, trivial⟩
  · replace h := ite_f q4 h
    refine q_iconst hX dL_law_2160 (v := (nI 0)) (by decide) ?_
    exact hE dL_law_2161 (by omega) (by omega) h
set_option maxRecDepth 100000 in
set_option maxHeartbeats 4000000 in
theorem w_L_law_b2162 {X : XT} {D : DT} {l : Launch} {xs : Nat → Int32} {nn : Nat} {K : Int32 → IT → LT → Prop} {X28 : Int32 → IT → LT → Prop} (hf : l.stackTraces = false) (hX : OK X D cL_law "TeaHouseLaw" 10) (hR : Room2 X l D 17 603072 7223402) (hN : NCX X) (hS : ScrAt X D nn xs) (hE : EndAt X D K 603072 7223402) {r28 s28 : Nat} (hx28 : ∀ {c w : Nat}, c + r28 ≤ 603072 → w + s28 ≤ 7223402 → ∀ (v5 : Int32) (I : IT) (L : LT), X28 v5 I L → J2 X D 10 c w I L 28 [.ref 1000300, .ref 0, .ref 190, .ref 195, .ref 196, .int v5, .retAddr 0, .retAddr 0, .retAddr 0, .retAddr 0] []) : ∀ {c w : Nat}, c + (0 + r28) ≤ 603072 → w + (0 + s28) ≤ 7223402 → ∀ (v5 : Int32) (I : IT) (L : LT), f_L_law_b2162 xs nn X28 K v5 I L → J2 X D 10 c w I L 2162 [.ref 1000300, .ref 0, .ref 190, .ref 195, .ref 196, .int v5, .retAddr 0, .retAddr 0, .retAddr 0, .retAddr 0] [] := by
  intro c w hc hw v5 I L h
  rw [f_L_law_b2162] at h
  refine q_aload_n hX dL_law_2162 rfl ?_
  refine q_V_fp hX hR (w_X8_steam  h) lk_L_275 (rc2_of (ci := 9) rfl rfl) dL_law_2163 rfl rfl (Nat.le_of_ble_eq_true rfl) (by omega) (by omega) (by omega) ?_
  intro x1 h
  obtain ⟨z2, h⟩ := h
  refine q_f2d hX dL_law_2166 z2 ?_
  refine q_dstore hX dL_law_2167 (by decide) (ls' := [_, _, _, _, _, _, _, _, _, _]) rfl ?_
  refine q_aload_n hX dL_law_2169 rfl ?_
  refine q_V_f hX hR (w_X9_steam  h) lk_L_278 (rc2_of (ci := 10) rfl rfl) dL_law_2170 rfl rfl (Nat.le_of_ble_eq_true rfl) (by omega) (by omega) (by omega) ?_
  intro x3 I4 h
  obtain ⟨z5, h⟩ := h
  refine q_f2d hX dL_law_2173 z5 ?_
  refine q_dstore hX dL_law_2174 (by decide) (ls' := [_, _, _, _, _, _, _, _, _, _]) rfl ?_
  refine q_dload hX dL_law_2176 rfl ?_
  refine q_dload hX dL_law_2178 rfl ?_
  refine q_dcmp hX dL_law_2180 ?_
  refine q_if_eq hX dL_law_2181 (tgt := 2202) (by decide) (fun q6 => ?_) (fun q6 => ?_)
  · replace h := ite_t q6 h
    refine q_goto hX dL_law_2202 (tgt := 3520) (by decide) ?_
    exact q_dr (w_L_law_b3520 hf hX hR hN hS hE  (r28 := r28) (s28 := s28) hx28  (by omega) (by omega) _ _ _  h) ⟨Or.inl rfl, Or.inl rfl, Or.inl rfl, Or.inl rfl, Or.inl rfl, Or.inl rfl, Or.inr rfl, Or.inl rfl, Or.inr rfl, Or.inl rfl, trivial⟩
  · replace h := ite_f q6 h
    refine q_dload hX dL_law_2184 rfl ?_
    refine q_dload hX dL_law_2186 rfl ?_
    refine q_dcmp hX dL_law_2188 ?_
    refine q_if_eq hX dL_law_2189 (tgt := 2200) (by decide) (fun q7 => ?_) (fun q7 => ?_)
    · replace h := ite_t q7 h
      refine q_iconst hX dL_law_2200 (v := (nI 0)) (by decide) ?_
      exact hE dL_law_2201 (by omega) (by omega) h
    · replace h := ite_f q7 h
      refine q_dload hX dL_law_2192 rfl ?_
      refine q_dload hX dL_law_2194 rfl ?_
      refine q_dcmp hX dL_law_2196 ?_
      refine q_if_ne hX dL_law_2197 (tgt := 2202) (by decide) (fun q8 => ?_) (fun q8 => ?_)
      · replace h := ite_f q8 h
        refine q_goto hX dL_law_2202 (tgt := 3520) (by decide) ?_
        exact q_dr (w_L_law_b3520 hf hX hR hN hS hE  (r28 := r28) (s28 := s28) hx28  (by omega) (by omega) _ _ _  h) ⟨Or.inl rfl, Or.inl rfl, Or.inl rfl, Or.inl rfl, Or.inl rfl, Or.inl rfl, Or.inr rfl, Or.inl rfl, Or.inr rfl, Or.inl rfl, trivial⟩
      · replace h := ite_t q8 h
        refine q_iconst hX dL_law_2200 (v := (nI 0)) (by decide) ?_
        exact hE dL_law_2201 (by omega) (by omega) h
set_option maxRecDepth 100000 in
set_option maxHeartbeats 4000000 in
theorem w_L_law_b2205 {X : XT} {D : DT} {l : Launch} {xs : Nat → Int32} {nn : Nat} {K : Int32 → IT → LT → Prop} {X28 : Int32 → IT → LT → Prop} (hf : l.stackTraces = false) (hX : OK X D cL_law "TeaHouseLaw" 10) (hR : Room2 X l D 17 603072 7223402) (hN : NCX X) (hS : ScrAt X D nn xs) (hE : EndAt X D K 603072 7223402) {r28 s28 : Nat} (hx28 : ∀ {c w : Nat}, c + r28 ≤ 603072 → w + s28 ≤ 7223402 → ∀ (v5 : Int32) (I : IT) (L : LT), X28 v5 I L → J2 X D 10 c w I L 28 [.ref 1000300, .ref 0, .ref 190, .ref 195, .ref 196, .int v5, .retAddr 0, .retAddr 0, .retAddr 0, .retAddr 0] []) : ∀ {c w : Nat}, c + (0 + r28) ≤ 603072 → w + (0 + s28) ≤ 7223402 → ∀ (v5 : Int32) (I : IT) (L : LT), f_L_law_b2205 xs nn X28 K v5 I L → J2 X D 10 c w I L 2205 [.ref 1000300, .ref 0, .ref 190, .ref 195, .ref 196, .int v5, .retAddr 0, .retAddr 0, .retAddr 0, .retAddr 0] [] := by
  intro c w hc hw v5 I L h
  rw [f_L_law_b2205] at h
  refine q_aload_n hX dL_law_2205 rfl ?_
  refine q_V_fp hX hR (w_X8_boiledTotal  h) lk_L_279 (rc2_of (ci := 9) rfl rfl) dL_law_2206 rfl rfl (Nat.le_of_ble_eq_true rfl) (by omega) (by omega) (by omega) ?_
  intro x1 h
  obtain ⟨z2, h⟩ := h
  refine q_f2d hX dL_law_2209 z2 ?_
  refine q_dstore hX dL_law_2210 (by decide) (ls' := [_, _, _, _, _, _, _, _, _, _]) rfl ?_
  refine q_aload_n hX dL_law_2212 rfl ?_
  refine q_V_f hX hR (w_X9_boiledTotal  h) lk_L_282 (rc2_of (ci := 10) rfl rfl) dL_law_2213 rfl rfl (Nat.le_of_ble_eq_true rfl) (by omega) (by omega) (by omega) ?_
  intro x3 I4 h
  obtain ⟨z5, h⟩ := h
  refine q_f2d hX dL_law_2216 z5 ?_
  refine q_dstore hX dL_law_2217 (by decide) (ls' := [_, _, _, _, _, _, _, _, _, _]) rfl ?_
  refine q_dload hX dL_law_2219 rfl ?_
  refine q_dload hX dL_law_2221 rfl ?_
  refine q_dcmp hX dL_law_2223 ?_
  refine q_if_eq hX dL_law_2224 (tgt := 2245) (by decide) (fun q6 => ?_) (fun q6 => ?_)
  · replace h := ite_t q6 h
    refine q_goto hX dL_law_2245 (tgt := 3520) (by decide) ?_
    exact q_dr (w_L_law_b3520 hf hX hR hN hS hE  (r28 := r28) (s28 := s28) hx28  (by omega) (by omega) _ _ _  h) ⟨Or.inl rfl, Or.inl rfl, Or.inl rfl, Or.inl rfl, Or.inl rfl, Or.inl rfl, Or.inr rfl, Or.inl rfl, Or.inr rfl, Or.inl rfl, trivial⟩
  · replace h := ite_f q6 h
    refine q_dload hX dL_law_2227 rfl ?_
    refine q_dload hX dL_law_2229 rfl ?_
    refine q_dcmp hX dL_law_2231 ?_
    refine q_if_eq hX dL_law_2232 (tgt := 2243) (by decide) (fun q7 => ?_) (fun q7 => ?_)
    · replace h := ite_t q7 h
      refine q_iconst hX dL_law_2243 (v := (nI 0)) (by decide) ?_
      exact hE dL_law_2244 (by omega) (by omega) h
    · replace h := ite_f q7 h
      refine q_dload hX dL_law_2235 rfl ?_
      refine q_dload hX dL_law_2237 rfl ?_
      refine q_dcmp hX dL_law_2239 ?_
      refine q_if_ne hX dL_law_2240 (tgt := 2245) (by decide) (fun q8 => ?_) (fun q8 => ?_)
      · replace h := ite_f q8 h
        refine q_goto hX dL_law_2245 (tgt := 3520) (by decide) ?_
        exact q_dr (w_L_law_b3520 hf hX hR hN hS hE  (r28 := r28) (s28 := s28) hx28  (by omega) (by omega) _ _ _  h) ⟨Or.inl rfl, Or.inl rfl, Or.inl rfl, Or.inl rfl, Or.inl rfl, Or.inl rfl, Or.inr rfl, Or.inl rfl, Or.inr rfl, Or.inl rfl, trivial⟩
      · replace h := ite_t q8 h
        refine q_iconst hX dL_law_2243 (v := (nI 0)) (by decide) ?_
        exact hE dL_law_2244 (by omega) (by omega) h
set_option maxRecDepth 100000 in
set_option maxHeartbeats 4000000 in
theorem w_L_law_b2248 {X : XT} {D : DT} {l : Launch} {xs : Nat → Int32} {nn : Nat} {K : Int32 → IT → LT → Prop} {X28 : Int32 → IT → LT → Prop} (hf : l.stackTraces = false) (hX : OK X D cL_law "TeaHouseLaw" 10) (hR : Room2 X l D 17 603072 7223402) (hN : NCX X) (hS : ScrAt X D nn xs) (hE : EndAt X D K 603072 7223402) {r28 s28 : Nat} (hx28 : ∀ {c w : Nat}, c + r28 ≤ 603072 → w + s28 ≤ 7223402 → ∀ (v5 : Int32) (I : IT) (L : LT), X28 v5 I L → J2 X D 10 c w I L 28 [.ref 1000300, .ref 0, .ref 190, .ref 195, .ref 196, .int v5, .retAddr 0, .retAddr 0, .retAddr 0, .retAddr 0] []) : ∀ {c w : Nat}, c + (0 + r28) ≤ 603072 → w + (0 + s28) ≤ 7223402 → ∀ (v5 : Int32) (I : IT) (L : LT), f_L_law_b2248 xs nn X28 K v5 I L → J2 X D 10 c w I L 2248 [.ref 1000300, .ref 0, .ref 190, .ref 195, .ref 196, .int v5, .retAddr 0, .retAddr 0, .retAddr 0, .retAddr 0] [] := by
  intro c w hc hw v5 I L h
  rw [f_L_law_b2248] at h
  refine q_aload_n hX dL_law_2248 rfl ?_
  refine q_V_fp hX hR (w_X8_pouredTotal  h) lk_L_283 (rc2_of (ci := 9) rfl rfl) dL_law_2249 rfl rfl (Nat.le_of_ble_eq_true rfl) (by omega) (by omega) (by omega) ?_
  intro x1 h
  obtain ⟨z2, h⟩ := h
  refine q_f2d hX dL_law_2252 z2 ?_
  refine q_dstore hX dL_law_2253 (by decide) (ls' := [_, _, _, _, _, _, _, _, _, _]) rfl ?_
  refine q_aload_n hX dL_law_2255 rfl ?_
  refine q_V_f hX hR (w_X9_pouredTotal  h) lk_L_286 (rc2_of (ci := 10) rfl rfl) dL_law_2256 rfl rfl (Nat.le_of_ble_eq_true rfl) (by omega) (by omega) (by omega) ?_
  intro x3 I4 h
  obtain ⟨z5, h⟩ := h
  refine q_f2d hX dL_law_2259 z5 ?_
  refine q_dstore hX dL_law_2260 (by decide) (ls' := [_, _, _, _, _, _, _, _, _, _]) rfl ?_
  refine q_dload hX dL_law_2262 rfl ?_
  refine q_dload hX dL_law_2264 rfl ?_
  refine q_dcmp hX dL_law_2266 ?_
  refine q_if_eq hX dL_law_2267 (tgt := 2288) (by decide) (fun q6 => ?_) (fun q6 => ?_)
  · replace h := ite_t q6 h
    refine q_goto hX dL_law_2288 (tgt := 3520) (by decide) ?_
    exact q_dr (w_L_law_b3520 hf hX hR hN hS hE  (r28 := r28) (s28 := s28) hx28  (by omega) (by omega) _ _ _  h) ⟨Or.inl rfl, Or.inl rfl, Or.inl rfl, Or.inl rfl, Or.inl rfl, Or.inl rfl, Or.inr rfl, Or.inl rfl, Or.inr rfl, Or.inl rfl, trivial⟩
  · replace h := ite_f q6 h
    refine q_dload hX dL_law_2270 rfl ?_
    refine q_dload hX dL_law_2272 rfl ?_
    refine q_dcmp hX dL_law_2274 ?_
    refine q_if_eq hX dL_law_2275 (tgt := 2286) (by decide) (fun q7 => ?_) (fun q7 => ?_)
    · replace h := ite_t q7 h
      refine q_iconst hX dL_law_2286 (v := (nI 0)) (by decide) ?_
      exact hE dL_law_2287 (by omega) (by omega) h
    · replace h := ite_f q7 h
      refine q_dload hX dL_law_2278 rfl ?_
      refine q_dload hX dL_law_2280 rfl ?_
      refine q_dcmp hX dL_law_2282 ?_
      refine q_if_ne hX dL_law_2283 (tgt := 2288) (by decide) (fun q8 => ?_) (fun q8 => ?_)
      · replace h := ite_f q8 h
        refine q_goto hX dL_law_2288 (tgt := 3520) (by decide) ?_
        exact q_dr (w_L_law_b3520 hf hX hR hN hS hE  (r28 := r28) (s28 := s28) hx28  (by omega) (by omega) _ _ _  h) ⟨Or.inl rfl, Or.inl rfl, Or.inl rfl, Or.inl rfl, Or.inl rfl, Or.inl rfl, Or.inr rfl, Or.inl rfl, Or.inr rfl, Or.inl rfl, trivial⟩
      · replace h := ite_t q8 h
        refine q_iconst hX dL_law_2286 (v := (nI 0)) (by decide) ?_
        exact hE dL_law_2287 (by omega) (by omega) h
set_option maxRecDepth 100000 in
set_option maxHeartbeats 4000000 in
theorem w_L_law_b2291 {X : XT} {D : DT} {l : Launch} {xs : Nat → Int32} {nn : Nat} {K : Int32 → IT → LT → Prop} {X28 : Int32 → IT → LT → Prop} (hf : l.stackTraces = false) (hX : OK X D cL_law "TeaHouseLaw" 10) (hR : Room2 X l D 17 603072 7223402) (hN : NCX X) (hS : ScrAt X D nn xs) (hE : EndAt X D K 603072 7223402) {r28 s28 : Nat} (hx28 : ∀ {c w : Nat}, c + r28 ≤ 603072 → w + s28 ≤ 7223402 → ∀ (v5 : Int32) (I : IT) (L : LT), X28 v5 I L → J2 X D 10 c w I L 28 [.ref 1000300, .ref 0, .ref 190, .ref 195, .ref 196, .int v5, .retAddr 0, .retAddr 0, .retAddr 0, .retAddr 0] []) : ∀ {c w : Nat}, c + (0 + r28) ≤ 603072 → w + (0 + s28) ≤ 7223402 → ∀ (v5 : Int32) (I : IT) (L : LT), f_L_law_b2291 xs nn X28 K v5 I L → J2 X D 10 c w I L 2291 [.ref 1000300, .ref 0, .ref 190, .ref 195, .ref 196, .int v5, .retAddr 0, .retAddr 0, .retAddr 0, .retAddr 0] [] := by
  intro c w hc hw v5 I L h
  rw [f_L_law_b2291] at h
  refine q_aload_n hX dL_law_2291 rfl ?_
  refine q_V_fp hX hR (w_X8_filledTotal  h) lk_L_287 (rc2_of (ci := 9) rfl rfl) dL_law_2292 rfl rfl (Nat.le_of_ble_eq_true rfl) (by omega) (by omega) (by omega) ?_
  intro x1 h
  obtain ⟨z2, h⟩ := h
  refine q_f2d hX dL_law_2295 z2 ?_
  refine q_dstore hX dL_law_2296 (by decide) (ls' := [_, _, _, _, _, _, _, _, _, _]) rfl ?_
  refine q_aload_n hX dL_law_2298 rfl ?_
  refine q_V_f hX hR (w_X9_filledTotal  h) lk_L_290 (rc2_of (ci := 10) rfl rfl) dL_law_2299 rfl rfl (Nat.le_of_ble_eq_true rfl) (by omega) (by omega) (by omega) ?_
  intro x3 I4 h
  obtain ⟨z5, h⟩ := h
  refine q_f2d hX dL_law_2302 z5 ?_
  refine q_dstore hX dL_law_2303 (by decide) (ls' := [_, _, _, _, _, _, _, _, _, _]) rfl ?_
  refine q_dload hX dL_law_2305 rfl ?_
  refine q_dload hX dL_law_2307 rfl ?_
  refine q_dcmp hX dL_law_2309 ?_
  refine q_if_eq hX dL_law_2310 (tgt := 2331) (by decide) (fun q6 => ?_) (fun q6 => ?_)
  · replace h := ite_t q6 h
    refine q_goto hX dL_law_2331 (tgt := 3520) (by decide) ?_
    exact q_dr (w_L_law_b3520 hf hX hR hN hS hE  (r28 := r28) (s28 := s28) hx28  (by omega) (by omega) _ _ _  h) ⟨Or.inl rfl, Or.inl rfl, Or.inl rfl, Or.inl rfl, Or.inl rfl, Or.inl rfl, Or.inr rfl, Or.inl rfl, Or.inr rfl, Or.inl rfl, trivial⟩
  · replace h := ite_f q6 h
    refine q_dload hX dL_law_2313 rfl ?_
    refine q_dload hX dL_law_2315 rfl ?_
    refine q_dcmp hX dL_law_2317 ?_
    refine q_if_eq hX dL_law_2318 (tgt := 2329) (by decide) (fun q7 => ?_) (fun q7 => ?_)
    · replace h := ite_t q7 h
      refine q_iconst hX dL_law_2329 (v := (nI 0)) (by decide) ?_
      exact hE dL_law_2330 (by omega) (by omega) h
    · replace h := ite_f q7 h
      refine q_dload hX dL_law_2321 rfl ?_
      refine q_dload hX dL_law_2323 rfl ?_
      refine q_dcmp hX dL_law_2325 ?_
      refine q_if_ne hX dL_law_2326 (tgt := 2331) (by decide) (fun q8 => ?_) (fun q8 => ?_)
      · replace h := ite_f q8 h
        refine q_goto hX dL_law_2331 (tgt := 3520) (by decide) ?_
        exact q_dr (w_L_law_b3520 hf hX hR hN hS hE  (r28 := r28) (s28 := s28) hx28  (by omega) (by omega) _ _ _  h) ⟨Or.inl rfl, Or.inl rfl, Or.inl rfl, Or.inl rfl, Or.inl rfl, Or.inl rfl, Or.inr rfl, Or.inl rfl, Or.inr rfl, Or.inl rfl, trivial⟩
      · replace h := ite_t q8 h
        refine q_iconst hX dL_law_2329 (v := (nI 0)) (by decide) ?_
        exact hE dL_law_2330 (by omega) (by omega) h
set_option maxRecDepth 100000 in
set_option maxHeartbeats 4000000 in
theorem w_L_law_b2334 {X : XT} {D : DT} {l : Launch} {xs : Nat → Int32} {nn : Nat} {K : Int32 → IT → LT → Prop} {X28 : Int32 → IT → LT → Prop} (hf : l.stackTraces = false) (hX : OK X D cL_law "TeaHouseLaw" 10) (hR : Room2 X l D 17 603072 7223402) (hN : NCX X) (hS : ScrAt X D nn xs) (hE : EndAt X D K 603072 7223402) {r28 s28 : Nat} (hx28 : ∀ {c w : Nat}, c + r28 ≤ 603072 → w + s28 ≤ 7223402 → ∀ (v5 : Int32) (I : IT) (L : LT), X28 v5 I L → J2 X D 10 c w I L 28 [.ref 1000300, .ref 0, .ref 190, .ref 195, .ref 196, .int v5, .retAddr 0, .retAddr 0, .retAddr 0, .retAddr 0] []) : ∀ {c w : Nat}, c + (0 + r28) ≤ 603072 → w + (0 + s28) ≤ 7223402 → ∀ (v5 : Int32) (I : IT) (L : LT), f_L_law_b2334 xs nn X28 K v5 I L → J2 X D 10 c w I L 2334 [.ref 1000300, .ref 0, .ref 190, .ref 195, .ref 196, .int v5, .retAddr 0, .retAddr 0, .retAddr 0, .retAddr 0] [] := by
  intro c w hc hw v5 I L h
  rw [f_L_law_b2334] at h
  refine q_aload_n hX dL_law_2334 rfl ?_
  refine q_V_fp hX hR (w_X8_cupPrice  h) lk_L_291 (rc2_of (ci := 9) rfl rfl) dL_law_2335 rfl rfl (Nat.le_of_ble_eq_true rfl) (by omega) (by omega) (by omega) ?_
  intro x1 h
  obtain ⟨z2, h⟩ := h
  refine q_f2d hX dL_law_2338 z2 ?_
  refine q_dstore hX dL_law_2339 (by decide) (ls' := [_, _, _, _, _, _, _, _, _, _]) rfl ?_
  refine q_aload_n hX dL_law_2341 rfl ?_
  refine q_V_f hX hR (w_X9_cupPrice  h) lk_L_294 (rc2_of (ci := 10) rfl rfl) dL_law_2342 rfl rfl (Nat.le_of_ble_eq_true rfl) (by omega) (by omega) (by omega) ?_
  intro x3 I4 h
  obtain ⟨z5, h⟩ := h
  refine q_f2d hX dL_law_2345 z5 ?_
  refine q_dstore hX dL_law_2346 (by decide) (ls' := [_, _, _, _, _, _, _, _, _, _]) rfl ?_
  refine q_dload hX dL_law_2348 rfl ?_
  refine q_dload hX dL_law_2350 rfl ?_
  refine q_dcmp hX dL_law_2352 ?_
  refine q_if_eq hX dL_law_2353 (tgt := 2374) (by decide) (fun q6 => ?_) (fun q6 => ?_)
  · replace h := ite_t q6 h
    refine q_goto hX dL_law_2374 (tgt := 3520) (by decide) ?_
    exact q_dr (w_L_law_b3520 hf hX hR hN hS hE  (r28 := r28) (s28 := s28) hx28  (by omega) (by omega) _ _ _  h) ⟨Or.inl rfl, Or.inl rfl, Or.inl rfl, Or.inl rfl, Or.inl rfl, Or.inl rfl, Or.inr rfl, Or.inl rfl, Or.inr rfl, Or.inl rfl, trivial⟩
  · replace h := ite_f q6 h
    refine q_dload hX dL_law_2356 rfl ?_
    refine q_dload hX dL_law_2358 rfl ?_
    refine q_dcmp hX dL_law_2360 ?_
    refine q_if_eq hX dL_law_2361 (tgt := 2372) (by decide) (fun q7 => ?_) (fun q7 => ?_)
    · replace h := ite_t q7 h
      refine q_iconst hX dL_law_2372 (v := (nI 0)) (by decide) ?_
      exact hE dL_law_2373 (by omega) (by omega) h
    · replace h := ite_f q7 h
      refine q_dload hX dL_law_2364 rfl ?_
      refine q_dload hX dL_law_2366 rfl ?_
      refine q_dcmp hX dL_law_2368 ?_
      refine q_if_ne hX dL_law_2369 (tgt := 2374) (by decide) (fun q8 => ?_) (fun q8 => ?_)
      · replace h := ite_f q8 h
        refine q_goto hX dL_law_2374 (tgt := 3520) (by decide) ?_
        exact q_dr (w_L_law_b3520 hf hX hR hN hS hE  (r28 := r28) (s28 := s28) hx28  (by omega) (by omega) _ _ _  h) ⟨Or.inl rfl, Or.inl rfl, Or.inl rfl, Or.inl rfl, Or.inl rfl, Or.inl rfl, Or.inr rfl, Or.inl rfl, Or.inr rfl, Or.inl rfl, trivial⟩
      · replace h := ite_t q8 h
        refine q_iconst hX dL_law_2372 (v := (nI 0)) (by decide) ?_
        exact hE dL_law_2373 (by omega) (by omega) h
set_option maxRecDepth 100000 in
set_option maxHeartbeats 4000000 in
theorem w_L_law_b2377 {X : XT} {D : DT} {l : Launch} {xs : Nat → Int32} {nn : Nat} {K : Int32 → IT → LT → Prop} {X28 : Int32 → IT → LT → Prop} (hf : l.stackTraces = false) (hX : OK X D cL_law "TeaHouseLaw" 10) (hR : Room2 X l D 17 603072 7223402) (hN : NCX X) (hS : ScrAt X D nn xs) (hE : EndAt X D K 603072 7223402) {r28 s28 : Nat} (hx28 : ∀ {c w : Nat}, c + r28 ≤ 603072 → w + s28 ≤ 7223402 → ∀ (v5 : Int32) (I : IT) (L : LT), X28 v5 I L → J2 X D 10 c w I L 28 [.ref 1000300, .ref 0, .ref 190, .ref 195, .ref 196, .int v5, .retAddr 0, .retAddr 0, .retAddr 0, .retAddr 0] []) : ∀ {c w : Nat}, c + (0 + r28) ≤ 603072 → w + (0 + s28) ≤ 7223402 → ∀ (v5 : Int32) (I : IT) (L : LT), f_L_law_b2377 xs nn X28 K v5 I L → J2 X D 10 c w I L 2377 [.ref 1000300, .ref 0, .ref 190, .ref 195, .ref 196, .int v5, .retAddr 0, .retAddr 0, .retAddr 0, .retAddr 0] [] := by
  intro c w hc hw v5 I L h
  rw [f_L_law_b2377] at h
  refine q_aload_n hX dL_law_2377 rfl ?_
  refine q_V_fp hX hR (w_X8_steamPrice  h) lk_L_295 (rc2_of (ci := 9) rfl rfl) dL_law_2378 rfl rfl (Nat.le_of_ble_eq_true rfl) (by omega) (by omega) (by omega) ?_
  intro x1 h
  obtain ⟨z2, h⟩ := h
  refine q_f2d hX dL_law_2381 z2 ?_
  refine q_dstore hX dL_law_2382 (by decide) (ls' := [_, _, _, _, _, _, _, _, _, _]) rfl ?_
  refine q_aload_n hX dL_law_2384 rfl ?_
  refine q_V_f hX hR (w_X9_steamPrice  h) lk_L_298 (rc2_of (ci := 10) rfl rfl) dL_law_2385 rfl rfl (Nat.le_of_ble_eq_true rfl) (by omega) (by omega) (by omega) ?_
  intro x3 I4 h
  obtain ⟨z5, h⟩ := h
  refine q_f2d hX dL_law_2388 z5 ?_
  refine q_dstore hX dL_law_2389 (by decide) (ls' := [_, _, _, _, _, _, _, _, _, _]) rfl ?_
  refine q_dload hX dL_law_2391 rfl ?_
  refine q_dload hX dL_law_2393 rfl ?_
  refine q_dcmp hX dL_law_2395 ?_
  refine q_if_eq hX dL_law_2396 (tgt := 2417) (by decide) (fun q6 => ?_) (fun q6 => ?_)
  · replace h := ite_t q6 h
    refine q_goto hX dL_law_2417 (tgt := 3520) (by decide) ?_
    exact q_dr (w_L_law_b3520 hf hX hR hN hS hE  (r28 := r28) (s28 := s28) hx28  (by omega) (by omega) _ _ _  h) ⟨Or.inl rfl, Or.inl rfl, Or.inl rfl, Or.inl rfl, Or.inl rfl, Or.inl rfl, Or.inr rfl, Or.inl rfl, Or.inr rfl, Or.inl rfl, trivial⟩
  · replace h := ite_f q6 h
    refine q_dload hX dL_law_2399 rfl ?_
    refine q_dload hX dL_law_2401 rfl ?_
    refine q_dcmp hX dL_law_2403 ?_
    refine q_if_eq hX dL_law_2404 (tgt := 2415) (by decide) (fun q7 => ?_) (fun q7 => ?_)
    · replace h := ite_t q7 h
      refine q_iconst hX dL_law_2415 (v := (nI 0)) (by decide) ?_
      exact hE dL_law_2416 (by omega) (by omega) h
    · replace h := ite_f q7 h
      refine q_dload hX dL_law_2407 rfl ?_
      refine q_dload hX dL_law_2409 rfl ?_
      refine q_dcmp hX dL_law_2411 ?_
      refine q_if_ne hX dL_law_2412 (tgt := 2417) (by decide) (fun q8 => ?_) (fun q8 => ?_)
      · replace h := ite_f q8 h
        refine q_goto hX dL_law_2417 (tgt := 3520) (by decide) ?_
        exact q_dr (w_L_law_b3520 hf hX hR hN hS hE  (r28 := r28) (s28 := s28) hx28  (by omega) (by omega) _ _ _  h) ⟨Or.inl rfl, Or.inl rfl, Or.inl rfl, Or.inl rfl, Or.inl rfl, Or.inl rfl, Or.inr rfl, Or.inl rfl, Or.inr rfl, Or.inl rfl, trivial⟩
      · replace h := ite_t q8 h
        refine q_iconst hX dL_law_2415 (v := (nI 0)) (by decide) ?_
        exact hE dL_law_2416 (by omega) (by omega) h
set_option maxRecDepth 100000 in
set_option maxHeartbeats 4000000 in
theorem w_L_law_b2420 {X : XT} {D : DT} {l : Launch} {xs : Nat → Int32} {nn : Nat} {K : Int32 → IT → LT → Prop} {X28 : Int32 → IT → LT → Prop} (hf : l.stackTraces = false) (hX : OK X D cL_law "TeaHouseLaw" 10) (hR : Room2 X l D 17 603072 7223402) (hN : NCX X) (hS : ScrAt X D nn xs) (hE : EndAt X D K 603072 7223402) {r28 s28 : Nat} (hx28 : ∀ {c w : Nat}, c + r28 ≤ 603072 → w + s28 ≤ 7223402 → ∀ (v5 : Int32) (I : IT) (L : LT), X28 v5 I L → J2 X D 10 c w I L 28 [.ref 1000300, .ref 0, .ref 190, .ref 195, .ref 196, .int v5, .retAddr 0, .retAddr 0, .retAddr 0, .retAddr 0] []) : ∀ {c w : Nat}, c + (0 + r28) ≤ 603072 → w + (0 + s28) ≤ 7223402 → ∀ (v5 : Int32) (I : IT) (L : LT), f_L_law_b2420 xs nn X28 K v5 I L → J2 X D 10 c w I L 2420 [.ref 1000300, .ref 0, .ref 190, .ref 195, .ref 196, .int v5, .retAddr 0, .retAddr 0, .retAddr 0, .retAddr 0] [] := by
  intro c w hc hw v5 I L h
  rw [f_L_law_b2420] at h
  refine q_aload_n hX dL_law_2420 rfl ?_
  refine q_V_fp hX hR (w_X8_income  h) lk_L_299 (rc2_of (ci := 9) rfl rfl) dL_law_2421 rfl rfl (Nat.le_of_ble_eq_true rfl) (by omega) (by omega) (by omega) ?_
  intro x1 h
  obtain ⟨z2, h⟩ := h
  refine q_f2d hX dL_law_2424 z2 ?_
  refine q_dstore hX dL_law_2425 (by decide) (ls' := [_, _, _, _, _, _, _, _, _, _]) rfl ?_
  refine q_aload_n hX dL_law_2427 rfl ?_
  refine q_V_f hX hR (w_X9_income  h) lk_L_302 (rc2_of (ci := 10) rfl rfl) dL_law_2428 rfl rfl (Nat.le_of_ble_eq_true rfl) (by omega) (by omega) (by omega) ?_
  intro x3 I4 h
  obtain ⟨z5, h⟩ := h
  refine q_f2d hX dL_law_2431 z5 ?_
  refine q_dstore hX dL_law_2432 (by decide) (ls' := [_, _, _, _, _, _, _, _, _, _]) rfl ?_
  refine q_dload hX dL_law_2434 rfl ?_
  refine q_dload hX dL_law_2436 rfl ?_
  refine q_dcmp hX dL_law_2438 ?_
  refine q_if_eq hX dL_law_2439 (tgt := 2460) (by decide) (fun q6 => ?_) (fun q6 => ?_)
  · replace h := ite_t q6 h
    refine q_goto hX dL_law_2460 (tgt := 3520) (by decide) ?_
    exact q_dr (w_L_law_b3520 hf hX hR hN hS hE  (r28 := r28) (s28 := s28) hx28  (by omega) (by omega) _ _ _  h) ⟨Or.inl rfl, Or.inl rfl, Or.inl rfl, Or.inl rfl, Or.inl rfl, Or.inl rfl, Or.inr rfl, Or.inl rfl, Or.inr rfl, Or.inl rfl, trivial⟩
  · replace h := ite_f q6 h
    refine q_dload hX dL_law_2442 rfl ?_
    refine q_dload hX dL_law_2444 rfl ?_
    refine q_dcmp hX dL_law_2446 ?_
    refine q_if_eq hX dL_law_2447 (tgt := 2458) (by decide) (fun q7 => ?_) (fun q7 => ?_)
    · replace h := ite_t q7 h
      refine q_iconst hX dL_law_2458 (v := (nI 0)) (by decide) ?_
      exact hE dL_law_2459 (by omega) (by omega) h
    · replace h := ite_f q7 h
      refine q_dload hX dL_law_2450 rfl ?_
      refine q_dload hX dL_law_2452 rfl ?_
      refine q_dcmp hX dL_law_2454 ?_
      refine q_if_ne hX dL_law_2455 (tgt := 2460) (by decide) (fun q8 => ?_) (fun q8 => ?_)
      · replace h := ite_f q8 h
        refine q_goto hX dL_law_2460 (tgt := 3520) (by decide) ?_
        exact q_dr (w_L_law_b3520 hf hX hR hN hS hE  (r28 := r28) (s28 := s28) hx28  (by omega) (by omega) _ _ _  h) ⟨Or.inl rfl, Or.inl rfl, Or.inl rfl, Or.inl rfl, Or.inl rfl, Or.inl rfl, Or.inr rfl, Or.inl rfl, Or.inr rfl, Or.inl rfl, trivial⟩
      · replace h := ite_t q8 h
        refine q_iconst hX dL_law_2458 (v := (nI 0)) (by decide) ?_
        exact hE dL_law_2459 (by omega) (by omega) h
set_option maxRecDepth 100000 in
set_option maxHeartbeats 4000000 in
theorem w_L_law_b2463 {X : XT} {D : DT} {l : Launch} {xs : Nat → Int32} {nn : Nat} {K : Int32 → IT → LT → Prop} {X28 : Int32 → IT → LT → Prop} (hf : l.stackTraces = false) (hX : OK X D cL_law "TeaHouseLaw" 10) (hR : Room2 X l D 17 603072 7223402) (hN : NCX X) (hS : ScrAt X D nn xs) (hE : EndAt X D K 603072 7223402) {r28 s28 : Nat} (hx28 : ∀ {c w : Nat}, c + r28 ≤ 603072 → w + s28 ≤ 7223402 → ∀ (v5 : Int32) (I : IT) (L : LT), X28 v5 I L → J2 X D 10 c w I L 28 [.ref 1000300, .ref 0, .ref 190, .ref 195, .ref 196, .int v5, .retAddr 0, .retAddr 0, .retAddr 0, .retAddr 0] []) : ∀ {c w : Nat}, c + (0 + r28) ≤ 603072 → w + (0 + s28) ≤ 7223402 → ∀ (v5 : Int32) (I : IT) (L : LT), f_L_law_b2463 xs nn X28 K v5 I L → J2 X D 10 c w I L 2463 [.ref 1000300, .ref 0, .ref 190, .ref 195, .ref 196, .int v5, .retAddr 0, .retAddr 0, .retAddr 0, .retAddr 0] [] := by
  intro c w hc hw v5 I L h
  rw [f_L_law_b2463] at h
  refine q_aload_n hX dL_law_2463 rfl ?_
  refine q_V_ip hX hR (w_X8_nightCount  h) lk_L_303 (rc2_of (ci := 9) rfl rfl) dL_law_2464 rfl rfl (Nat.le_of_ble_eq_true rfl) (by omega) (by omega) (by omega) ?_
  intro x1 h
  refine q_aload_n hX dL_law_2467 rfl ?_
  refine q_V_i hX hR (w_X9_nightCount  h) lk_L_306 (rc2_of (ci := 10) rfl rfl) dL_law_2468 rfl rfl (Nat.le_of_ble_eq_true rfl) (by omega) (by omega) (by omega) ?_
  intro x2 I3 h
  refine q_icmp_eq hX dL_law_2471 (tgt := 3520) (by decide) (fun q4 => ?_) (fun q4 => ?_)
  · replace h := ite_t q4 h
    exact q_dr (w_L_law_b3520 hf hX hR hN hS hE  (r28 := r28) (s28 := s28) hx28  (by omega) (by omega) _ _ _  h) ⟨Or.inl rfl, Or.inl rfl, Or.inl rfl, Or.inl rfl, Or.inl rfl, Or.inl rfl, Or.inl rfl, Or.inl rfl, Or.inl rfl, Or.inl rfl, trivial⟩
  · replace h := ite_f q4 h
    refine q_iconst hX dL_law_2474 (v := (nI 0)) (by decide) ?_
    exact hE dL_law_2475 (by omega) (by omega) h
set_option maxRecDepth 100000 in
set_option maxHeartbeats 4000000 in
theorem w_L_law_b2476 {X : XT} {D : DT} {l : Launch} {xs : Nat → Int32} {nn : Nat} {K : Int32 → IT → LT → Prop} {X28 : Int32 → IT → LT → Prop} (hf : l.stackTraces = false) (hX : OK X D cL_law "TeaHouseLaw" 10) (hR : Room2 X l D 17 603072 7223402) (hN : NCX X) (hS : ScrAt X D nn xs) (hE : EndAt X D K 603072 7223402) {r28 s28 : Nat} (hx28 : ∀ {c w : Nat}, c + r28 ≤ 603072 → w + s28 ≤ 7223402 → ∀ (v5 : Int32) (I : IT) (L : LT), X28 v5 I L → J2 X D 10 c w I L 28 [.ref 1000300, .ref 0, .ref 190, .ref 195, .ref 196, .int v5, .retAddr 0, .retAddr 0, .retAddr 0, .retAddr 0] []) : ∀ {c w : Nat}, c + (1 + r28) ≤ 603072 → w + (6 + s28) ≤ 7223402 → ∀ (v5 : Int32) (I : IT) (L : LT), f_L_law_b2476 xs nn X28 K v5 I L → J2 X D 10 c w I L 2476 [.ref 1000300, .ref 0, .ref 190, .ref 195, .ref 196, .int v5, .retAddr 0, .retAddr 0, .retAddr 0, .retAddr 0] [] := by
  intro c w hc hw v5 I L h
  rw [f_L_law_b2476] at h
  refine q_aload_n hX dL_law_2476 rfl ?_
  refine q_aload_n hX dL_law_2477 rfl ?_
  refine q_iload hX dL_law_2478 rfl ?_
  refine q_iconst hX dL_law_2480 (v := (nI 1)) (by decide) ?_
  refine q_iadd hX dL_law_2481 ?_
  obtain ⟨z1, h⟩ := h
  refine q_sld hX hS dL_law_2482 z1 ?_
  refine q_aload hX dL_law_2483 rfl ?_
  refine q_SW hX hR hN (w_L_nightIncome hf  h) lk_LW_307 dL_law_2485 rfl rfl (Nat.le_of_ble_eq_true rfl) (by omega) (by omega) (by omega) ?_
  intro x2 I3 L4 h
  refine q_istore hX dL_law_2488 (by decide) (ls' := [_, _, _, _, _, _, _, _, _, _]) rfl ?_
  refine q_aload_n hX dL_law_2490 rfl ?_
  refine q_aload_n hX dL_law_2491 rfl ?_
  refine q_iload hX dL_law_2492 rfl ?_
  refine q_iconst hX dL_law_2494 (v := (nI 1)) (by decide) ?_
  refine q_iadd hX dL_law_2495 ?_
  refine q_sld hX hS dL_law_2496 z1 ?_
  refine q_V_f hX hR (w_X9_nightIncome  h) lk_L_309 (rc2_of (ci := 10) rfl rfl) dL_law_2497 rfl rfl (Nat.le_of_ble_eq_true rfl) (by omega) (by omega) (by omega) ?_
  intro x5 I6 h
  refine q_fstore hX dL_law_2500 (by decide) (ls' := [_, _, _, _, _, _, _, _, _, _]) rfl ?_
  refine q_aload_n hX dL_law_2502 rfl ?_
  refine q_V_ip hX hR (w_X9_thrown  h) lk_L_166 (rc2_of (ci := 10) rfl rfl) dL_law_2503 rfl rfl (Nat.le_of_ble_eq_true rfl) (by omega) (by omega) (by omega) ?_
  intro x7 h
  refine q_iload hX dL_law_2506 rfl ?_
  refine q_icmp_eq hX dL_law_2508 (tgt := 2513) (by decide) (fun q8 => ?_) (fun q8 => ?_)
  · replace h := ite_t q8 h
    refine q_iload hX dL_law_2513 rfl ?_
    refine q_if_ne hX dL_law_2515 (tgt := 2551) (by decide) (fun q9 => ?_) (fun q9 => ?_)
    · replace h := ite_f q9 h
      refine q_goto hX dL_law_2551 (tgt := 3520) (by decide) ?_
      exact q_dr (w_L_law_b3520 hf hX hR hN hS hE  (r28 := r28) (s28 := s28) hx28  (by omega) (by omega) _ _ _  h) ⟨Or.inl rfl, Or.inl rfl, Or.inl rfl, Or.inl rfl, Or.inl rfl, Or.inl rfl, Or.inr rfl, Or.inr rfl, Or.inl rfl, Or.inl rfl, trivial⟩
    · replace h := ite_t q9 h
      refine q_aload hX dL_law_2518 rfl ?_
      refine q_iconst hX dL_law_2520 (v := (nI 0)) (by decide) ?_
      refine q_dald hX dL_law_2521 ?_
      refine q_fload hX dL_law_2522 rfl ?_
      obtain ⟨z10, h⟩ := h
      refine q_f2d hX dL_law_2524 z10 ?_
      refine q_dcmp hX dL_law_2525 ?_
      refine q_if_eq hX dL_law_2526 (tgt := 2551) (by decide) (fun q11 => ?_) (fun q11 => ?_)
      · replace h := ite_t q11 h
        refine q_goto hX dL_law_2551 (tgt := 3520) (by decide) ?_
        exact q_dr (w_L_law_b3520 hf hX hR hN hS hE  (r28 := r28) (s28 := s28) hx28  (by omega) (by omega) _ _ _  h) ⟨Or.inl rfl, Or.inl rfl, Or.inl rfl, Or.inl rfl, Or.inl rfl, Or.inl rfl, Or.inr rfl, Or.inr rfl, Or.inl rfl, Or.inl rfl, trivial⟩
      · replace h := ite_f q11 h
        refine q_aload hX dL_law_2529 rfl ?_
        refine q_iconst hX dL_law_2531 (v := (nI 0)) (by decide) ?_
        refine q_dald hX dL_law_2532 ?_
        refine q_aload hX dL_law_2533 rfl ?_
        refine q_iconst hX dL_law_2535 (v := (nI 0)) (by decide) ?_
        refine q_dald hX dL_law_2536 ?_
        refine q_dcmp hX dL_law_2537 ?_
        refine q_if_eq hX dL_law_2538 (tgt := 2549) (by decide) (fun q12 => ?_) (fun q12 => ?_)
        · replace h := ite_t q12 h
          refine q_iconst hX dL_law_2549 (v := (nI 0)) (by decide) ?_
          exact hE dL_law_2550 (by omega) (by omega) h
        · replace h := ite_f q12 h
          refine q_fload hX dL_law_2541 rfl ?_
          refine q_fload hX dL_law_2543 rfl ?_
          refine q_fcmp hX dL_law_2545 ?_
          refine q_if_ne hX dL_law_2546 (tgt := 2551) (by decide) (fun q13 => ?_) (fun q13 => ?_)
          · replace h := ite_f q13 h
            refine q_goto hX dL_law_2551 (tgt := 3520) (by decide) ?_
            exact q_dr (w_L_law_b3520 hf hX hR hN hS hE  (r28 := r28) (s28 := s28) hx28  (by omega) (by omega) _ _ _  h) ⟨Or.inl rfl, Or.inl rfl, Or.inl rfl, Or.inl rfl, Or.inl rfl, Or.inl rfl, Or.inr rfl, Or.inr rfl, Or.inl rfl, Or.inl rfl, trivial⟩
          · replace h := ite_t q13 h
            refine q_iconst hX dL_law_2549 (v := (nI 0)) (by decide) ?_
            exact hE dL_law_2550 (by omega) (by omega) h
  · replace h := ite_f q8 h
    refine q_iconst hX dL_law_2511 (v := (nI 0)) (by decide) ?_
    exact hE dL_law_2512 (by omega) (by omega) h
set_option maxRecDepth 100000 in
set_option maxHeartbeats 4000000 in
theorem w_L_law_b2554 {X : XT} {D : DT} {l : Launch} {xs : Nat → Int32} {nn : Nat} {K : Int32 → IT → LT → Prop} {X28 : Int32 → IT → LT → Prop} (hf : l.stackTraces = false) (hX : OK X D cL_law "TeaHouseLaw" 10) (hR : Room2 X l D 17 603072 7223402) (hN : NCX X) (hS : ScrAt X D nn xs) (hE : EndAt X D K 603072 7223402) {r28 s28 : Nat} (hx28 : ∀ {c w : Nat}, c + r28 ≤ 603072 → w + s28 ≤ 7223402 → ∀ (v5 : Int32) (I : IT) (L : LT), X28 v5 I L → J2 X D 10 c w I L 28 [.ref 1000300, .ref 0, .ref 190, .ref 195, .ref 196, .int v5, .retAddr 0, .retAddr 0, .retAddr 0, .retAddr 0] []) : ∀ {c w : Nat}, c + (1 + r28) ≤ 603072 → w + (6 + s28) ≤ 7223402 → ∀ (v5 : Int32) (I : IT) (L : LT), f_L_law_b2554 xs nn X28 K v5 I L → J2 X D 10 c w I L 2554 [.ref 1000300, .ref 0, .ref 190, .ref 195, .ref 196, .int v5, .retAddr 0, .retAddr 0, .retAddr 0, .retAddr 0] [] := by
  intro c w hc hw v5 I L h
  rw [f_L_law_b2554] at h
  refine q_aload_n hX dL_law_2554 rfl ?_
  refine q_aload_n hX dL_law_2555 rfl ?_
  refine q_iload hX dL_law_2556 rfl ?_
  refine q_iconst hX dL_law_2558 (v := (nI 1)) (by decide) ?_
  refine q_iadd hX dL_law_2559 ?_
  obtain ⟨z1, h⟩ := h
  refine q_sld hX hS dL_law_2560 z1 ?_
  refine q_aload_n hX dL_law_2561 rfl ?_
  refine q_SW hX hR hN (w_L_nightByIncome hf  h) lk_LW_310 dL_law_2562 rfl rfl (Nat.le_of_ble_eq_true rfl) (by omega) (by omega) (by omega) ?_
  intro x2 I3 L4 h
  refine q_istore hX dL_law_2565 (by decide) (ls' := [_, _, _, _, _, _, _, _, _, _]) rfl ?_
  refine q_aload_n hX dL_law_2567 rfl ?_
  refine q_aload_n hX dL_law_2568 rfl ?_
  refine q_iload hX dL_law_2569 rfl ?_
  refine q_iconst hX dL_law_2571 (v := (nI 1)) (by decide) ?_
  refine q_iadd hX dL_law_2572 ?_
  refine q_sld hX hS dL_law_2573 z1 ?_
  refine q_V_i hX hR (w_X9_nightByIncome  h) lk_L_312 (rc2_of (ci := 10) rfl rfl) dL_law_2574 rfl rfl (Nat.le_of_ble_eq_true rfl) (by omega) (by omega) (by omega) ?_
  intro x5 I6 h
  refine q_istore hX dL_law_2577 (by decide) (ls' := [_, _, _, _, _, _, _, _, _, _]) rfl ?_
  refine q_aload_n hX dL_law_2579 rfl ?_
  refine q_V_ip hX hR (w_X9_thrown  h) lk_L_166 (rc2_of (ci := 10) rfl rfl) dL_law_2580 rfl rfl (Nat.le_of_ble_eq_true rfl) (by omega) (by omega) (by omega) ?_
  intro x7 h
  refine q_iload hX dL_law_2583 rfl ?_
  refine q_icmp_eq hX dL_law_2585 (tgt := 2590) (by decide) (fun q8 => ?_) (fun q8 => ?_)
  · replace h := ite_t q8 h
    refine q_iload hX dL_law_2590 rfl ?_
    refine q_if_ne hX dL_law_2592 (tgt := 2607) (by decide) (fun q9 => ?_) (fun q9 => ?_)
    · replace h := ite_f q9 h
      refine q_goto hX dL_law_2607 (tgt := 3520) (by decide) ?_
      exact q_dr (w_L_law_b3520 hf hX hR hN hS hE  (r28 := r28) (s28 := s28) hx28  (by omega) (by omega) _ _ _  h) ⟨Or.inl rfl, Or.inl rfl, Or.inl rfl, Or.inl rfl, Or.inl rfl, Or.inl rfl, Or.inr rfl, Or.inr rfl, Or.inl rfl, Or.inl rfl, trivial⟩
    · replace h := ite_t q9 h
      refine q_aload_n hX dL_law_2595 rfl ?_
      refine q_iconst hX dL_law_2596 (v := (nI 0)) (by decide) ?_
      refine q_lald hX dL_law_2597 ?_
      refine q_iload hX dL_law_2598 rfl ?_
      refine q_i2l hX dL_law_2600 rfl ?_
      refine q_lcmp hX dL_law_2601 ?_
      refine q_if_eq hX dL_law_2602 (tgt := 2607) (by decide) (fun q10 => ?_) (fun q10 => ?_)
      · replace h := ite_t q10 h
        refine q_goto hX dL_law_2607 (tgt := 3520) (by decide) ?_
        exact q_dr (w_L_law_b3520 hf hX hR hN hS hE  (r28 := r28) (s28 := s28) hx28  (by omega) (by omega) _ _ _  h) ⟨Or.inl rfl, Or.inl rfl, Or.inl rfl, Or.inl rfl, Or.inl rfl, Or.inl rfl, Or.inr rfl, Or.inr rfl, Or.inl rfl, Or.inl rfl, trivial⟩
      · replace h := ite_f q10 h
        refine q_iconst hX dL_law_2605 (v := (nI 0)) (by decide) ?_
        exact hE dL_law_2606 (by omega) (by omega) h
  · replace h := ite_f q8 h
    refine q_iconst hX dL_law_2588 (v := (nI 0)) (by decide) ?_
    exact hE dL_law_2589 (by omega) (by omega) h
set_option maxRecDepth 100000 in
set_option maxHeartbeats 4000000 in
theorem w_L_law_b2610 {X : XT} {D : DT} {l : Launch} {xs : Nat → Int32} {nn : Nat} {K : Int32 → IT → LT → Prop} {X28 : Int32 → IT → LT → Prop} (hf : l.stackTraces = false) (hX : OK X D cL_law "TeaHouseLaw" 10) (hR : Room2 X l D 17 603072 7223402) (hN : NCX X) (hS : ScrAt X D nn xs) (hE : EndAt X D K 603072 7223402) {r28 s28 : Nat} (hx28 : ∀ {c w : Nat}, c + r28 ≤ 603072 → w + s28 ≤ 7223402 → ∀ (v5 : Int32) (I : IT) (L : LT), X28 v5 I L → J2 X D 10 c w I L 28 [.ref 1000300, .ref 0, .ref 190, .ref 195, .ref 196, .int v5, .retAddr 0, .retAddr 0, .retAddr 0, .retAddr 0] []) : ∀ {c w : Nat}, c + (1 + r28) ≤ 603072 → w + (6 + s28) ≤ 7223402 → ∀ (v5 : Int32) (I : IT) (L : LT), f_L_law_b2610 xs nn X28 K v5 I L → J2 X D 10 c w I L 2610 [.ref 1000300, .ref 0, .ref 190, .ref 195, .ref 196, .int v5, .retAddr 0, .retAddr 0, .retAddr 0, .retAddr 0] [] := by
  intro c w hc hw v5 I L h
  rw [f_L_law_b2610] at h
  refine q_aload_n hX dL_law_2610 rfl ?_
  refine q_aload_n hX dL_law_2611 rfl ?_
  refine q_iload hX dL_law_2612 rfl ?_
  refine q_iconst hX dL_law_2614 (v := (nI 1)) (by decide) ?_
  refine q_iadd hX dL_law_2615 ?_
  obtain ⟨z1, h⟩ := h
  refine q_sld hX hS dL_law_2616 z1 ?_
  refine q_aload hX dL_law_2617 rfl ?_
  refine q_SW hX hR hN (w_L_greatestIncome hf  h) lk_LW_313 dL_law_2619 rfl rfl (Nat.le_of_ble_eq_true rfl) (by omega) (by omega) (by omega) ?_
  intro x2 I3 L4 h
  refine q_istore hX dL_law_2622 (by decide) (ls' := [_, _, _, _, _, _, _, _, _, _]) rfl ?_
  refine q_aload_n hX dL_law_2624 rfl ?_
  refine q_aload_n hX dL_law_2625 rfl ?_
  refine q_iload hX dL_law_2626 rfl ?_
  refine q_iconst hX dL_law_2628 (v := (nI 1)) (by decide) ?_
  refine q_iadd hX dL_law_2629 ?_
  refine q_sld hX hS dL_law_2630 z1 ?_
  refine q_V_f hX hR (w_X9_greatestIncome  h) lk_L_315 (rc2_of (ci := 10) rfl rfl) dL_law_2631 rfl rfl (Nat.le_of_ble_eq_true rfl) (by omega) (by omega) (by omega) ?_
  intro x5 I6 h
  refine q_fstore hX dL_law_2634 (by decide) (ls' := [_, _, _, _, _, _, _, _, _, _]) rfl ?_
  refine q_aload_n hX dL_law_2636 rfl ?_
  refine q_V_ip hX hR (w_X9_thrown  h) lk_L_166 (rc2_of (ci := 10) rfl rfl) dL_law_2637 rfl rfl (Nat.le_of_ble_eq_true rfl) (by omega) (by omega) (by omega) ?_
  intro x7 h
  refine q_iload hX dL_law_2640 rfl ?_
  refine q_icmp_eq hX dL_law_2642 (tgt := 2647) (by decide) (fun q8 => ?_) (fun q8 => ?_)
  · replace h := ite_t q8 h
    refine q_iload hX dL_law_2647 rfl ?_
    refine q_if_ne hX dL_law_2649 (tgt := 2685) (by decide) (fun q9 => ?_) (fun q9 => ?_)
    · replace h := ite_f q9 h
      refine q_goto hX dL_law_2685 (tgt := 3520) (by decide) ?_
      exact q_dr (w_L_law_b3520 hf hX hR hN hS hE  (r28 := r28) (s28 := s28) hx28  (by omega) (by omega) _ _ _  h) ⟨Or.inl rfl, Or.inl rfl, Or.inl rfl, Or.inl rfl, Or.inl rfl, Or.inl rfl, Or.inr rfl, Or.inr rfl, Or.inl rfl, Or.inl rfl, trivial⟩
    · replace h := ite_t q9 h
      refine q_aload hX dL_law_2652 rfl ?_
      refine q_iconst hX dL_law_2654 (v := (nI 0)) (by decide) ?_
      refine q_dald hX dL_law_2655 ?_
      refine q_fload hX dL_law_2656 rfl ?_
      obtain ⟨z10, h⟩ := h
      refine q_f2d hX dL_law_2658 z10 ?_
      refine q_dcmp hX dL_law_2659 ?_
      refine q_if_eq hX dL_law_2660 (tgt := 2685) (by decide) (fun q11 => ?_) (fun q11 => ?_)
      · replace h := ite_t q11 h
        refine q_goto hX dL_law_2685 (tgt := 3520) (by decide) ?_
        exact q_dr (w_L_law_b3520 hf hX hR hN hS hE  (r28 := r28) (s28 := s28) hx28  (by omega) (by omega) _ _ _  h) ⟨Or.inl rfl, Or.inl rfl, Or.inl rfl, Or.inl rfl, Or.inl rfl, Or.inl rfl, Or.inr rfl, Or.inr rfl, Or.inl rfl, Or.inl rfl, trivial⟩
      · replace h := ite_f q11 h
        refine q_aload hX dL_law_2663 rfl ?_
        refine q_iconst hX dL_law_2665 (v := (nI 0)) (by decide) ?_
        refine q_dald hX dL_law_2666 ?_
        refine q_aload hX dL_law_2667 rfl ?_
        refine q_iconst hX dL_law_2669 (v := (nI 0)) (by decide) ?_
        refine q_dald hX dL_law_2670 ?_
        refine q_dcmp hX dL_law_2671 ?_
        refine q_if_eq hX dL_law_2672 (tgt := 2683) (by decide) (fun q12 => ?_) (fun q12 => ?_)
        · replace h := ite_t q12 h
          refine q_iconst hX dL_law_2683 (v := (nI 0)) (by decide) ?_
          exact hE dL_law_2684 (by omega) (by omega) h
        · replace h := ite_f q12 h
          refine q_fload hX dL_law_2675 rfl ?_
          refine q_fload hX dL_law_2677 rfl ?_
          refine q_fcmp hX dL_law_2679 ?_
          refine q_if_ne hX dL_law_2680 (tgt := 2685) (by decide) (fun q13 => ?_) (fun q13 => ?_)
          · replace h := ite_f q13 h
            refine q_goto hX dL_law_2685 (tgt := 3520) (by decide) ?_
            exact q_dr (w_L_law_b3520 hf hX hR hN hS hE  (r28 := r28) (s28 := s28) hx28  (by omega) (by omega) _ _ _  h) ⟨Or.inl rfl, Or.inl rfl, Or.inl rfl, Or.inl rfl, Or.inl rfl, Or.inl rfl, Or.inr rfl, Or.inr rfl, Or.inl rfl, Or.inl rfl, trivial⟩
          · replace h := ite_t q13 h
            refine q_iconst hX dL_law_2683 (v := (nI 0)) (by decide) ?_
            exact hE dL_law_2684 (by omega) (by omega) h
  · replace h := ite_f q8 h
    refine q_iconst hX dL_law_2645 (v := (nI 0)) (by decide) ?_
    exact hE dL_law_2646 (by omega) (by omega) h
set_option maxRecDepth 100000 in
set_option maxHeartbeats 4000000 in
theorem w_L_law_b2688 {X : XT} {D : DT} {l : Launch} {xs : Nat → Int32} {nn : Nat} {K : Int32 → IT → LT → Prop} {X28 : Int32 → IT → LT → Prop} (hf : l.stackTraces = false) (hX : OK X D cL_law "TeaHouseLaw" 10) (hR : Room2 X l D 17 603072 7223402) (hN : NCX X) (hS : ScrAt X D nn xs) (hE : EndAt X D K 603072 7223402) {r28 s28 : Nat} (hx28 : ∀ {c w : Nat}, c + r28 ≤ 603072 → w + s28 ≤ 7223402 → ∀ (v5 : Int32) (I : IT) (L : LT), X28 v5 I L → J2 X D 10 c w I L 28 [.ref 1000300, .ref 0, .ref 190, .ref 195, .ref 196, .int v5, .retAddr 0, .retAddr 0, .retAddr 0, .retAddr 0] []) : ∀ {c w : Nat}, c + (1 + r28) ≤ 603072 → w + (6 + s28) ≤ 7223402 → ∀ (v5 : Int32) (I : IT) (L : LT), f_L_law_b2688 xs nn X28 K v5 I L → J2 X D 10 c w I L 2688 [.ref 1000300, .ref 0, .ref 190, .ref 195, .ref 196, .int v5, .retAddr 0, .retAddr 0, .retAddr 0, .retAddr 0] [] := by
  intro c w hc hw v5 I L h
  rw [f_L_law_b2688] at h
  refine q_aload_n hX dL_law_2688 rfl ?_
  refine q_aload_n hX dL_law_2689 rfl ?_
  refine q_iload hX dL_law_2690 rfl ?_
  refine q_iconst hX dL_law_2692 (v := (nI 1)) (by decide) ?_
  refine q_iadd hX dL_law_2693 ?_
  obtain ⟨z1, h⟩ := h
  refine q_sld hX hS dL_law_2694 z1 ?_
  refine q_aload hX dL_law_2695 rfl ?_
  refine q_SW hX hR hN (w_L_greatestIncomeBySums hf  h) lk_LW_316 dL_law_2697 rfl rfl (Nat.le_of_ble_eq_true rfl) (by omega) (by omega) (by omega) ?_
  intro x2 I3 L4 h
  refine q_istore hX dL_law_2700 (by decide) (ls' := [_, _, _, _, _, _, _, _, _, _]) rfl ?_
  refine q_aload_n hX dL_law_2702 rfl ?_
  refine q_aload_n hX dL_law_2703 rfl ?_
  refine q_iload hX dL_law_2704 rfl ?_
  refine q_iconst hX dL_law_2706 (v := (nI 1)) (by decide) ?_
  refine q_iadd hX dL_law_2707 ?_
  refine q_sld hX hS dL_law_2708 z1 ?_
  refine q_V_f hX hR (w_X9_greatestIncomeBySums  h) lk_L_318 (rc2_of (ci := 10) rfl rfl) dL_law_2709 rfl rfl (Nat.le_of_ble_eq_true rfl) (by omega) (by omega) (by omega) ?_
  intro x5 I6 h
  refine q_fstore hX dL_law_2712 (by decide) (ls' := [_, _, _, _, _, _, _, _, _, _]) rfl ?_
  refine q_aload_n hX dL_law_2714 rfl ?_
  refine q_V_ip hX hR (w_X9_thrown  h) lk_L_166 (rc2_of (ci := 10) rfl rfl) dL_law_2715 rfl rfl (Nat.le_of_ble_eq_true rfl) (by omega) (by omega) (by omega) ?_
  intro x7 h
  refine q_iload hX dL_law_2718 rfl ?_
  refine q_icmp_eq hX dL_law_2720 (tgt := 2725) (by decide) (fun q8 => ?_) (fun q8 => ?_)
  · replace h := ite_t q8 h
    refine q_iload hX dL_law_2725 rfl ?_
    refine q_if_ne hX dL_law_2727 (tgt := 2763) (by decide) (fun q9 => ?_) (fun q9 => ?_)
    · replace h := ite_f q9 h
      refine q_goto hX dL_law_2763 (tgt := 3520) (by decide) ?_
      exact q_dr (w_L_law_b3520 hf hX hR hN hS hE  (r28 := r28) (s28 := s28) hx28  (by omega) (by omega) _ _ _  h) ⟨Or.inl rfl, Or.inl rfl, Or.inl rfl, Or.inl rfl, Or.inl rfl, Or.inl rfl, Or.inr rfl, Or.inr rfl, Or.inl rfl, Or.inl rfl, trivial⟩
    · replace h := ite_t q9 h
      refine q_aload hX dL_law_2730 rfl ?_
      refine q_iconst hX dL_law_2732 (v := (nI 0)) (by decide) ?_
      refine q_dald hX dL_law_2733 ?_
      refine q_fload hX dL_law_2734 rfl ?_
      obtain ⟨z10, h⟩ := h
      refine q_f2d hX dL_law_2736 z10 ?_
      refine q_dcmp hX dL_law_2737 ?_
      refine q_if_eq hX dL_law_2738 (tgt := 2763) (by decide) (fun q11 => ?_) (fun q11 => ?_)
      · replace h := ite_t q11 h
        refine q_goto hX dL_law_2763 (tgt := 3520) (by decide) ?_
        exact q_dr (w_L_law_b3520 hf hX hR hN hS hE  (r28 := r28) (s28 := s28) hx28  (by omega) (by omega) _ _ _  h) ⟨Or.inl rfl, Or.inl rfl, Or.inl rfl, Or.inl rfl, Or.inl rfl, Or.inl rfl, Or.inr rfl, Or.inr rfl, Or.inl rfl, Or.inl rfl, trivial⟩
      · replace h := ite_f q11 h
        refine q_aload hX dL_law_2741 rfl ?_
        refine q_iconst hX dL_law_2743 (v := (nI 0)) (by decide) ?_
        refine q_dald hX dL_law_2744 ?_
        refine q_aload hX dL_law_2745 rfl ?_
        refine q_iconst hX dL_law_2747 (v := (nI 0)) (by decide) ?_
        refine q_dald hX dL_law_2748 ?_
        refine q_dcmp hX dL_law_2749 ?_
        refine q_if_eq hX dL_law_2750 (tgt := 2761) (by decide) (fun q12 => ?_) (fun q12 => ?_)
        · replace h := ite_t q12 h
          refine q_iconst hX dL_law_2761 (v := (nI 0)) (by decide) ?_
          exact hE dL_law_2762 (by omega) (by omega) h
        · replace h := ite_f q12 h
          refine q_fload hX dL_law_2753 rfl ?_
          refine q_fload hX dL_law_2755 rfl ?_
          refine q_fcmp hX dL_law_2757 ?_
          refine q_if_ne hX dL_law_2758 (tgt := 2763) (by decide) (fun q13 => ?_) (fun q13 => ?_)
          · replace h := ite_f q13 h
            refine q_goto hX dL_law_2763 (tgt := 3520) (by decide) ?_
            exact q_dr (w_L_law_b3520 hf hX hR hN hS hE  (r28 := r28) (s28 := s28) hx28  (by omega) (by omega) _ _ _  h) ⟨Or.inl rfl, Or.inl rfl, Or.inl rfl, Or.inl rfl, Or.inl rfl, Or.inl rfl, Or.inr rfl, Or.inr rfl, Or.inl rfl, Or.inl rfl, trivial⟩
          · replace h := ite_t q13 h
            refine q_iconst hX dL_law_2761 (v := (nI 0)) (by decide) ?_
            exact hE dL_law_2762 (by omega) (by omega) h
  · replace h := ite_f q8 h
    refine q_iconst hX dL_law_2723 (v := (nI 0)) (by decide) ?_
    exact hE dL_law_2724 (by omega) (by omega) h
set_option maxRecDepth 100000 in
set_option maxHeartbeats 4000000 in
theorem w_L_law_b2766 {X : XT} {D : DT} {l : Launch} {xs : Nat → Int32} {nn : Nat} {K : Int32 → IT → LT → Prop} {X28 : Int32 → IT → LT → Prop} (hf : l.stackTraces = false) (hX : OK X D cL_law "TeaHouseLaw" 10) (hR : Room2 X l D 17 603072 7223402) (hN : NCX X) (hS : ScrAt X D nn xs) (hE : EndAt X D K 603072 7223402) {r28 s28 : Nat} (hx28 : ∀ {c w : Nat}, c + r28 ≤ 603072 → w + s28 ≤ 7223402 → ∀ (v5 : Int32) (I : IT) (L : LT), X28 v5 I L → J2 X D 10 c w I L 28 [.ref 1000300, .ref 0, .ref 190, .ref 195, .ref 196, .int v5, .retAddr 0, .retAddr 0, .retAddr 0, .retAddr 0] []) : ∀ {c w : Nat}, c + (0 + r28) ≤ 603072 → w + (0 + s28) ≤ 7223402 → ∀ (v5 : Int32) (I : IT) (L : LT), f_L_law_b2766 xs nn X28 K v5 I L → J2 X D 10 c w I L 2766 [.ref 1000300, .ref 0, .ref 190, .ref 195, .ref 196, .int v5, .retAddr 0, .retAddr 0, .retAddr 0, .retAddr 0] [] := by
  intro c w hc hw v5 I L h
  rw [f_L_law_b2766] at h
  refine q_aload_n hX dL_law_2766 rfl ?_
  refine q_V_fp hX hR (w_X8_totalIncome  h) lk_L_319 (rc2_of (ci := 9) rfl rfl) dL_law_2767 rfl rfl (Nat.le_of_ble_eq_true rfl) (by omega) (by omega) (by omega) ?_
  intro x1 h
  obtain ⟨z2, h⟩ := h
  refine q_f2d hX dL_law_2770 z2 ?_
  refine q_dstore hX dL_law_2771 (by decide) (ls' := [_, _, _, _, _, _, _, _, _, _]) rfl ?_
  refine q_aload_n hX dL_law_2773 rfl ?_
  refine q_V_f hX hR (w_X9_totalIncome  h) lk_L_322 (rc2_of (ci := 10) rfl rfl) dL_law_2774 rfl rfl (Nat.le_of_ble_eq_true rfl) (by omega) (by omega) (by omega) ?_
  intro x3 I4 h
  obtain ⟨z5, h⟩ := h
  refine q_f2d hX dL_law_2777 z5 ?_
  refine q_dstore hX dL_law_2778 (by decide) (ls' := [_, _, _, _, _, _, _, _, _, _]) rfl ?_
  refine q_dload hX dL_law_2780 rfl ?_
  refine q_dload hX dL_law_2782 rfl ?_
  refine q_dcmp hX dL_law_2784 ?_
  refine q_if_eq hX dL_law_2785 (tgt := 2806) (by decide) (fun q6 => ?_) (fun q6 => ?_)
  · replace h := ite_t q6 h
    refine q_goto hX dL_law_2806 (tgt := 3520) (by decide) ?_
    exact q_dr (w_L_law_b3520 hf hX hR hN hS hE  (r28 := r28) (s28 := s28) hx28  (by omega) (by omega) _ _ _  h) ⟨Or.inl rfl, Or.inl rfl, Or.inl rfl, Or.inl rfl, Or.inl rfl, Or.inl rfl, Or.inr rfl, Or.inl rfl, Or.inr rfl, Or.inl rfl, trivial⟩
  · replace h := ite_f q6 h
    refine q_dload hX dL_law_2788 rfl ?_
    refine q_dload hX dL_law_2790 rfl ?_
    refine q_dcmp hX dL_law_2792 ?_
    refine q_if_eq hX dL_law_2793 (tgt := 2804) (by decide) (fun q7 => ?_) (fun q7 => ?_)
    · replace h := ite_t q7 h
      refine q_iconst hX dL_law_2804 (v := (nI 0)) (by decide) ?_
      exact hE dL_law_2805 (by omega) (by omega) h
    · replace h := ite_f q7 h
      refine q_dload hX dL_law_2796 rfl ?_
      refine q_dload hX dL_law_2798 rfl ?_
      refine q_dcmp hX dL_law_2800 ?_
      refine q_if_ne hX dL_law_2801 (tgt := 2806) (by decide) (fun q8 => ?_) (fun q8 => ?_)
      · replace h := ite_f q8 h
        refine q_goto hX dL_law_2806 (tgt := 3520) (by decide) ?_
        exact q_dr (w_L_law_b3520 hf hX hR hN hS hE  (r28 := r28) (s28 := s28) hx28  (by omega) (by omega) _ _ _  h) ⟨Or.inl rfl, Or.inl rfl, Or.inl rfl, Or.inl rfl, Or.inl rfl, Or.inl rfl, Or.inr rfl, Or.inl rfl, Or.inr rfl, Or.inl rfl, trivial⟩
      · replace h := ite_t q8 h
        refine q_iconst hX dL_law_2804 (v := (nI 0)) (by decide) ?_
        exact hE dL_law_2805 (by omega) (by omega) h
set_option maxRecDepth 100000 in
set_option maxHeartbeats 4000000 in
theorem w_L_law_b2809 {X : XT} {D : DT} {l : Launch} {xs : Nat → Int32} {nn : Nat} {K : Int32 → IT → LT → Prop} {X28 : Int32 → IT → LT → Prop} (hf : l.stackTraces = false) (hX : OK X D cL_law "TeaHouseLaw" 10) (hR : Room2 X l D 17 603072 7223402) (hN : NCX X) (hS : ScrAt X D nn xs) (hE : EndAt X D K 603072 7223402) {r28 s28 : Nat} (hx28 : ∀ {c w : Nat}, c + r28 ≤ 603072 → w + s28 ≤ 7223402 → ∀ (v5 : Int32) (I : IT) (L : LT), X28 v5 I L → J2 X D 10 c w I L 28 [.ref 1000300, .ref 0, .ref 190, .ref 195, .ref 196, .int v5, .retAddr 0, .retAddr 0, .retAddr 0, .retAddr 0] []) : ∀ {c w : Nat}, c + (0 + r28) ≤ 603072 → w + (0 + s28) ≤ 7223402 → ∀ (v5 : Int32) (I : IT) (L : LT), f_L_law_b2809 xs nn X28 K v5 I L → J2 X D 10 c w I L 2809 [.ref 1000300, .ref 0, .ref 190, .ref 195, .ref 196, .int v5, .retAddr 0, .retAddr 0, .retAddr 0, .retAddr 0] [] := by
  intro c w hc hw v5 I L h
  rw [f_L_law_b2809] at h
  refine q_aload_n hX dL_law_2809 rfl ?_
  refine q_V_fp hX hR (w_X8_totalIncomeBySales  h) lk_L_323 (rc2_of (ci := 9) rfl rfl) dL_law_2810 rfl rfl (Nat.le_of_ble_eq_true rfl) (by omega) (by omega) (by omega) ?_
  intro x1 h
  obtain ⟨z2, h⟩ := h
  refine q_f2d hX dL_law_2813 z2 ?_
  refine q_dstore hX dL_law_2814 (by decide) (ls' := [_, _, _, _, _, _, _, _, _, _]) rfl ?_
  refine q_aload_n hX dL_law_2816 rfl ?_
  refine q_V_f hX hR (w_X9_totalIncomeBySales  h) lk_L_326 (rc2_of (ci := 10) rfl rfl) dL_law_2817 rfl rfl (Nat.le_of_ble_eq_true rfl) (by omega) (by omega) (by omega) ?_
  intro x3 I4 h
  obtain ⟨z5, h⟩ := h
  refine q_f2d hX dL_law_2820 z5 ?_
  refine q_dstore hX dL_law_2821 (by decide) (ls' := [_, _, _, _, _, _, _, _, _, _]) rfl ?_
  refine q_dload hX dL_law_2823 rfl ?_
  refine q_dload hX dL_law_2825 rfl ?_
  refine q_dcmp hX dL_law_2827 ?_
  refine q_if_eq hX dL_law_2828 (tgt := 2849) (by decide) (fun q6 => ?_) (fun q6 => ?_)
  · replace h := ite_t q6 h
    refine q_goto hX dL_law_2849 (tgt := 3520) (by decide) ?_
    exact q_dr (w_L_law_b3520 hf hX hR hN hS hE  (r28 := r28) (s28 := s28) hx28  (by omega) (by omega) _ _ _  h) ⟨Or.inl rfl, Or.inl rfl, Or.inl rfl, Or.inl rfl, Or.inl rfl, Or.inl rfl, Or.inr rfl, Or.inl rfl, Or.inr rfl, Or.inl rfl, trivial⟩
  · replace h := ite_f q6 h
    refine q_dload hX dL_law_2831 rfl ?_
    refine q_dload hX dL_law_2833 rfl ?_
    refine q_dcmp hX dL_law_2835 ?_
    refine q_if_eq hX dL_law_2836 (tgt := 2847) (by decide) (fun q7 => ?_) (fun q7 => ?_)
    · replace h := ite_t q7 h
      refine q_iconst hX dL_law_2847 (v := (nI 0)) (by decide) ?_
      exact hE dL_law_2848 (by omega) (by omega) h
    · replace h := ite_f q7 h
      refine q_dload hX dL_law_2839 rfl ?_
      refine q_dload hX dL_law_2841 rfl ?_
      refine q_dcmp hX dL_law_2843 ?_
      refine q_if_ne hX dL_law_2844 (tgt := 2849) (by decide) (fun q8 => ?_) (fun q8 => ?_)
      · replace h := ite_f q8 h
        refine q_goto hX dL_law_2849 (tgt := 3520) (by decide) ?_
        exact q_dr (w_L_law_b3520 hf hX hR hN hS hE  (r28 := r28) (s28 := s28) hx28  (by omega) (by omega) _ _ _  h) ⟨Or.inl rfl, Or.inl rfl, Or.inl rfl, Or.inl rfl, Or.inl rfl, Or.inl rfl, Or.inr rfl, Or.inl rfl, Or.inr rfl, Or.inl rfl, trivial⟩
      · replace h := ite_t q8 h
        refine q_iconst hX dL_law_2847 (v := (nI 0)) (by decide) ?_
        exact hE dL_law_2848 (by omega) (by omega) h
set_option maxRecDepth 100000 in
set_option maxHeartbeats 4000000 in
theorem w_L_law_b2852 {X : XT} {D : DT} {l : Launch} {xs : Nat → Int32} {nn : Nat} {K : Int32 → IT → LT → Prop} {X28 : Int32 → IT → LT → Prop} (hf : l.stackTraces = false) (hX : OK X D cL_law "TeaHouseLaw" 10) (hR : Room2 X l D 17 603072 7223402) (hN : NCX X) (hS : ScrAt X D nn xs) (hE : EndAt X D K 603072 7223402) {r28 s28 : Nat} (hx28 : ∀ {c w : Nat}, c + r28 ≤ 603072 → w + s28 ≤ 7223402 → ∀ (v5 : Int32) (I : IT) (L : LT), X28 v5 I L → J2 X D 10 c w I L 28 [.ref 1000300, .ref 0, .ref 190, .ref 195, .ref 196, .int v5, .retAddr 0, .retAddr 0, .retAddr 0, .retAddr 0] []) : ∀ {c w : Nat}, c + (0 + r28) ≤ 603072 → w + (0 + s28) ≤ 7223402 → ∀ (v5 : Int32) (I : IT) (L : LT), f_L_law_b2852 xs nn X28 K v5 I L → J2 X D 10 c w I L 2852 [.ref 1000300, .ref 0, .ref 190, .ref 195, .ref 196, .int v5, .retAddr 0, .retAddr 0, .retAddr 0, .retAddr 0] [] := by
  intro c w hc hw v5 I L h
  rw [f_L_law_b2852] at h
  refine q_aload_n hX dL_law_2852 rfl ?_
  refine q_V_ip hX hR (w_X8_servedOrders  h) lk_L_327 (rc2_of (ci := 9) rfl rfl) dL_law_2853 rfl rfl (Nat.le_of_ble_eq_true rfl) (by omega) (by omega) (by omega) ?_
  intro x1 h
  refine q_aload_n hX dL_law_2856 rfl ?_
  refine q_V_i hX hR (w_X9_servedOrders  h) lk_L_330 (rc2_of (ci := 10) rfl rfl) dL_law_2857 rfl rfl (Nat.le_of_ble_eq_true rfl) (by omega) (by omega) (by omega) ?_
  intro x2 I3 h
  refine q_icmp_eq hX dL_law_2860 (tgt := 3520) (by decide) (fun q4 => ?_) (fun q4 => ?_)
  · replace h := ite_t q4 h
    exact q_dr (w_L_law_b3520 hf hX hR hN hS hE  (r28 := r28) (s28 := s28) hx28  (by omega) (by omega) _ _ _  h) ⟨Or.inl rfl, Or.inl rfl, Or.inl rfl, Or.inl rfl, Or.inl rfl, Or.inl rfl, Or.inl rfl, Or.inl rfl, Or.inl rfl, Or.inl rfl, trivial⟩
  · replace h := ite_f q4 h
    refine q_iconst hX dL_law_2863 (v := (nI 0)) (by decide) ?_
    exact hE dL_law_2864 (by omega) (by omega) h
set_option maxRecDepth 100000 in
set_option maxHeartbeats 4000000 in
theorem w_L_law_b2865 {X : XT} {D : DT} {l : Launch} {xs : Nat → Int32} {nn : Nat} {K : Int32 → IT → LT → Prop} {X28 : Int32 → IT → LT → Prop} (hf : l.stackTraces = false) (hX : OK X D cL_law "TeaHouseLaw" 10) (hR : Room2 X l D 17 603072 7223402) (hN : NCX X) (hS : ScrAt X D nn xs) (hE : EndAt X D K 603072 7223402) {r28 s28 : Nat} (hx28 : ∀ {c w : Nat}, c + r28 ≤ 603072 → w + s28 ≤ 7223402 → ∀ (v5 : Int32) (I : IT) (L : LT), X28 v5 I L → J2 X D 10 c w I L 28 [.ref 1000300, .ref 0, .ref 190, .ref 195, .ref 196, .int v5, .retAddr 0, .retAddr 0, .retAddr 0, .retAddr 0] []) : ∀ {c w : Nat}, c + (0 + r28) ≤ 603072 → w + (0 + s28) ≤ 7223402 → ∀ (v5 : Int32) (I : IT) (L : LT), f_L_law_b2865 xs nn X28 K v5 I L → J2 X D 10 c w I L 2865 [.ref 1000300, .ref 0, .ref 190, .ref 195, .ref 196, .int v5, .retAddr 0, .retAddr 0, .retAddr 0, .retAddr 0] [] := by
  intro c w hc hw v5 I L h
  rw [f_L_law_b2865] at h
  refine q_aload_n hX dL_law_2865 rfl ?_
  refine q_V_ip hX hR (w_X8_whistlesHeard  h) lk_L_331 (rc2_of (ci := 9) rfl rfl) dL_law_2866 rfl rfl (Nat.le_of_ble_eq_true rfl) (by omega) (by omega) (by omega) ?_
  intro x1 h
  refine q_aload_n hX dL_law_2869 rfl ?_
  refine q_V_i hX hR (w_X9_whistlesHeard  h) lk_L_334 (rc2_of (ci := 10) rfl rfl) dL_law_2870 rfl rfl (Nat.le_of_ble_eq_true rfl) (by omega) (by omega) (by omega) ?_
  intro x2 I3 h
  refine q_icmp_eq hX dL_law_2873 (tgt := 3520) (by decide) (fun q4 => ?_) (fun q4 => ?_)
  · replace h := ite_t q4 h
    exact q_dr (w_L_law_b3520 hf hX hR hN hS hE  (r28 := r28) (s28 := s28) hx28  (by omega) (by omega) _ _ _  h) ⟨Or.inl rfl, Or.inl rfl, Or.inl rfl, Or.inl rfl, Or.inl rfl, Or.inl rfl, Or.inl rfl, Or.inl rfl, Or.inl rfl, Or.inl rfl, trivial⟩
  · replace h := ite_f q4 h
    refine q_iconst hX dL_law_2876 (v := (nI 0)) (by decide) ?_
    exact hE dL_law_2877 (by omega) (by omega) h
set_option maxRecDepth 100000 in
set_option maxHeartbeats 4000000 in
theorem w_L_law_b2878 {X : XT} {D : DT} {l : Launch} {xs : Nat → Int32} {nn : Nat} {K : Int32 → IT → LT → Prop} {X28 : Int32 → IT → LT → Prop} (hf : l.stackTraces = false) (hX : OK X D cL_law "TeaHouseLaw" 10) (hR : Room2 X l D 17 603072 7223402) (hN : NCX X) (hS : ScrAt X D nn xs) (hE : EndAt X D K 603072 7223402) {r28 s28 : Nat} (hx28 : ∀ {c w : Nat}, c + r28 ≤ 603072 → w + s28 ≤ 7223402 → ∀ (v5 : Int32) (I : IT) (L : LT), X28 v5 I L → J2 X D 10 c w I L 28 [.ref 1000300, .ref 0, .ref 190, .ref 195, .ref 196, .int v5, .retAddr 0, .retAddr 0, .retAddr 0, .retAddr 0] []) : ∀ {c w : Nat}, c + (0 + r28) ≤ 603072 → w + (0 + s28) ≤ 7223402 → ∀ (v5 : Int32) (I : IT) (L : LT), f_L_law_b2878 xs nn X28 K v5 I L → J2 X D 10 c w I L 2878 [.ref 1000300, .ref 0, .ref 190, .ref 195, .ref 196, .int v5, .retAddr 0, .retAddr 0, .retAddr 0, .retAddr 0] [] := by
  intro c w hc hw v5 I L h
  rw [f_L_law_b2878] at h
  refine q_aload_n hX dL_law_2878 rfl ?_
  refine q_V_ip hX hR (w_X8_whistlesLost  h) lk_L_335 (rc2_of (ci := 9) rfl rfl) dL_law_2879 rfl rfl (Nat.le_of_ble_eq_true rfl) (by omega) (by omega) (by omega) ?_
  intro x1 h
  refine q_aload_n hX dL_law_2882 rfl ?_
  refine q_V_i hX hR (w_X9_whistlesLost  h) lk_L_338 (rc2_of (ci := 10) rfl rfl) dL_law_2883 rfl rfl (Nat.le_of_ble_eq_true rfl) (by omega) (by omega) (by omega) ?_
  intro x2 I3 h
  refine q_icmp_eq hX dL_law_2886 (tgt := 3520) (by decide) (fun q4 => ?_) (fun q4 => ?_)
  · replace h := ite_t q4 h
    exact q_dr (w_L_law_b3520 hf hX hR hN hS hE  (r28 := r28) (s28 := s28) hx28  (by omega) (by omega) _ _ _  h) ⟨Or.inl rfl, Or.inl rfl, Or.inl rfl, Or.inl rfl, Or.inl rfl, Or.inl rfl, Or.inl rfl, Or.inl rfl, Or.inl rfl, Or.inl rfl, trivial⟩
  · replace h := ite_f q4 h
    refine q_iconst hX dL_law_2889 (v := (nI 0)) (by decide) ?_
    exact hE dL_law_2890 (by omega) (by omega) h
set_option maxRecDepth 100000 in
set_option maxHeartbeats 4000000 in
theorem w_L_law_b2891 {X : XT} {D : DT} {l : Launch} {xs : Nat → Int32} {nn : Nat} {K : Int32 → IT → LT → Prop} {X28 : Int32 → IT → LT → Prop} (hf : l.stackTraces = false) (hX : OK X D cL_law "TeaHouseLaw" 10) (hR : Room2 X l D 17 603072 7223402) (hN : NCX X) (hS : ScrAt X D nn xs) (hE : EndAt X D K 603072 7223402) {r28 s28 : Nat} (hx28 : ∀ {c w : Nat}, c + r28 ≤ 603072 → w + s28 ≤ 7223402 → ∀ (v5 : Int32) (I : IT) (L : LT), X28 v5 I L → J2 X D 10 c w I L 28 [.ref 1000300, .ref 0, .ref 190, .ref 195, .ref 196, .int v5, .retAddr 0, .retAddr 0, .retAddr 0, .retAddr 0] []) : ∀ {c w : Nat}, c + (1 + r28) ≤ 603072 → w + (6 + s28) ≤ 7223402 → ∀ (v5 : Int32) (I : IT) (L : LT), f_L_law_b2891 xs nn X28 K v5 I L → J2 X D 10 c w I L 2891 [.ref 1000300, .ref 0, .ref 190, .ref 195, .ref 196, .int v5, .retAddr 0, .retAddr 0, .retAddr 0, .retAddr 0] [] := by
  intro c w hc hw v5 I L h
  rw [f_L_law_b2891] at h
  refine q_aload_n hX dL_law_2891 rfl ?_
  refine q_aload hX dL_law_2892 rfl ?_
  refine q_SW hX hR hN (w_L_meanTemperature hf  h) lk_LW_339 dL_law_2894 rfl rfl (Nat.le_of_ble_eq_true rfl) (by omega) (by omega) (by omega) ?_
  intro x1 I2 L3 h
  refine q_istore hX dL_law_2897 (by decide) (ls' := [_, _, _, _, _, _, _, _, _, _]) rfl ?_
  refine q_aload_n hX dL_law_2899 rfl ?_
  refine q_V_d hX hR (w_X9_meanTemperature  h) lk_L_341 (rc2_of (ci := 10) rfl rfl) dL_law_2900 rfl rfl (Nat.le_of_ble_eq_true rfl) (by omega) (by omega) (by omega) ?_
  intro x4 I5 h
  refine q_dstore hX dL_law_2903 (by decide) (ls' := [_, _, _, _, _, _, _, _, _, _]) rfl ?_
  refine q_aload_n hX dL_law_2905 rfl ?_
  refine q_V_ip hX hR (w_X9_thrown  h) lk_L_166 (rc2_of (ci := 10) rfl rfl) dL_law_2906 rfl rfl (Nat.le_of_ble_eq_true rfl) (by omega) (by omega) (by omega) ?_
  intro x6 h
  refine q_iload hX dL_law_2909 rfl ?_
  refine q_icmp_eq hX dL_law_2911 (tgt := 2916) (by decide) (fun q7 => ?_) (fun q7 => ?_)
  · replace h := ite_t q7 h
    refine q_iload hX dL_law_2916 rfl ?_
    refine q_if_ne hX dL_law_2918 (tgt := 2953) (by decide) (fun q8 => ?_) (fun q8 => ?_)
    · replace h := ite_f q8 h
      refine q_goto hX dL_law_2953 (tgt := 3520) (by decide) ?_
      exact q_dr (w_L_law_b3520 hf hX hR hN hS hE  (r28 := r28) (s28 := s28) hx28  (by omega) (by omega) _ _ _  h) ⟨Or.inl rfl, Or.inl rfl, Or.inl rfl, Or.inl rfl, Or.inl rfl, Or.inl rfl, Or.inr rfl, Or.inr rfl, Or.inl rfl, Or.inl rfl, trivial⟩
    · replace h := ite_t q8 h
      refine q_aload hX dL_law_2921 rfl ?_
      refine q_iconst hX dL_law_2923 (v := (nI 0)) (by decide) ?_
      refine q_dald hX dL_law_2924 ?_
      refine q_dload hX dL_law_2925 rfl ?_
      refine q_dcmp hX dL_law_2927 ?_
      refine q_if_eq hX dL_law_2928 (tgt := 2953) (by decide) (fun q9 => ?_) (fun q9 => ?_)
      · replace h := ite_t q9 h
        refine q_goto hX dL_law_2953 (tgt := 3520) (by decide) ?_
        exact q_dr (w_L_law_b3520 hf hX hR hN hS hE  (r28 := r28) (s28 := s28) hx28  (by omega) (by omega) _ _ _  h) ⟨Or.inl rfl, Or.inl rfl, Or.inl rfl, Or.inl rfl, Or.inl rfl, Or.inl rfl, Or.inr rfl, Or.inr rfl, Or.inl rfl, Or.inl rfl, trivial⟩
      · replace h := ite_f q9 h
        refine q_aload hX dL_law_2931 rfl ?_
        refine q_iconst hX dL_law_2933 (v := (nI 0)) (by decide) ?_
        refine q_dald hX dL_law_2934 ?_
        refine q_aload hX dL_law_2935 rfl ?_
        refine q_iconst hX dL_law_2937 (v := (nI 0)) (by decide) ?_
        refine q_dald hX dL_law_2938 ?_
        refine q_dcmp hX dL_law_2939 ?_
        refine q_if_eq hX dL_law_2940 (tgt := 2951) (by decide) (fun q10 => ?_) (fun q10 => ?_)
        · replace h := ite_t q10 h
          refine q_iconst hX dL_law_2951 (v := (nI 0)) (by decide) ?_
          exact hE dL_law_2952 (by omega) (by omega) h
        · replace h := ite_f q10 h
          refine q_dload hX dL_law_2943 rfl ?_
          refine q_dload hX dL_law_2945 rfl ?_
          refine q_dcmp hX dL_law_2947 ?_
          refine q_if_ne hX dL_law_2948 (tgt := 2953) (by decide) (fun q11 => ?_) (fun q11 => ?_)
          · replace h := ite_f q11 h
            refine q_goto hX dL_law_2953 (tgt := 3520) (by decide) ?_
            exact q_dr (w_L_law_b3520 hf hX hR hN hS hE  (r28 := r28) (s28 := s28) hx28  (by omega) (by omega) _ _ _  h) ⟨Or.inl rfl, Or.inl rfl, Or.inl rfl, Or.inl rfl, Or.inl rfl, Or.inl rfl, Or.inr rfl, Or.inr rfl, Or.inl rfl, Or.inl rfl, trivial⟩
          · replace h := ite_t q11 h
            refine q_iconst hX dL_law_2951 (v := (nI 0)) (by decide) ?_
            exact hE dL_law_2952 (by omega) (by omega) h
  · replace h := ite_f q7 h
    refine q_iconst hX dL_law_2914 (v := (nI 0)) (by decide) ?_
    exact hE dL_law_2915 (by omega) (by omega) h
set_option maxRecDepth 100000 in
set_option maxHeartbeats 4000000 in
theorem w_L_law_b2956 {X : XT} {D : DT} {l : Launch} {xs : Nat → Int32} {nn : Nat} {K : Int32 → IT → LT → Prop} {X28 : Int32 → IT → LT → Prop} (hf : l.stackTraces = false) (hX : OK X D cL_law "TeaHouseLaw" 10) (hR : Room2 X l D 17 603072 7223402) (hN : NCX X) (hS : ScrAt X D nn xs) (hE : EndAt X D K 603072 7223402) {r28 s28 : Nat} (hx28 : ∀ {c w : Nat}, c + r28 ≤ 603072 → w + s28 ≤ 7223402 → ∀ (v5 : Int32) (I : IT) (L : LT), X28 v5 I L → J2 X D 10 c w I L 28 [.ref 1000300, .ref 0, .ref 190, .ref 195, .ref 196, .int v5, .retAddr 0, .retAddr 0, .retAddr 0, .retAddr 0] []) : ∀ {c w : Nat}, c + (1 + r28) ≤ 603072 → w + (6 + s28) ≤ 7223402 → ∀ (v5 : Int32) (I : IT) (L : LT), f_L_law_b2956 xs nn X28 K v5 I L → J2 X D 10 c w I L 2956 [.ref 1000300, .ref 0, .ref 190, .ref 195, .ref 196, .int v5, .retAddr 0, .retAddr 0, .retAddr 0, .retAddr 0] [] := by
  intro c w hc hw v5 I L h
  rw [f_L_law_b2956] at h
  refine q_aload_n hX dL_law_2956 rfl ?_
  refine q_aload hX dL_law_2957 rfl ?_
  refine q_SW hX hR hN (w_L_lostShare hf  h) lk_LW_342 dL_law_2959 rfl rfl (Nat.le_of_ble_eq_true rfl) (by omega) (by omega) (by omega) ?_
  intro x1 I2 L3 h
  refine q_istore hX dL_law_2962 (by decide) (ls' := [_, _, _, _, _, _, _, _, _, _]) rfl ?_
  refine q_aload_n hX dL_law_2964 rfl ?_
  refine q_V_f hX hR (w_X9_lostShare  h) lk_L_344 (rc2_of (ci := 10) rfl rfl) dL_law_2965 rfl rfl (Nat.le_of_ble_eq_true rfl) (by omega) (by omega) (by omega) ?_
  intro x4 I5 h
  refine q_fstore hX dL_law_2968 (by decide) (ls' := [_, _, _, _, _, _, _, _, _, _]) rfl ?_
  refine q_aload_n hX dL_law_2970 rfl ?_
  refine q_V_ip hX hR (w_X9_thrown  h) lk_L_166 (rc2_of (ci := 10) rfl rfl) dL_law_2971 rfl rfl (Nat.le_of_ble_eq_true rfl) (by omega) (by omega) (by omega) ?_
  intro x6 h
  refine q_iload hX dL_law_2974 rfl ?_
  refine q_icmp_eq hX dL_law_2976 (tgt := 2981) (by decide) (fun q7 => ?_) (fun q7 => ?_)
  · replace h := ite_t q7 h
    refine q_iload hX dL_law_2981 rfl ?_
    refine q_if_ne hX dL_law_2983 (tgt := 3019) (by decide) (fun q8 => ?_) (fun q8 => ?_)
    · replace h := ite_f q8 h
      refine q_goto hX dL_law_3019 (tgt := 3520) (by decide) ?_
      exact q_dr (w_L_law_b3520 hf hX hR hN hS hE  (r28 := r28) (s28 := s28) hx28  (by omega) (by omega) _ _ _  h) ⟨Or.inl rfl, Or.inl rfl, Or.inl rfl, Or.inl rfl, Or.inl rfl, Or.inl rfl, Or.inr rfl, Or.inr rfl, Or.inl rfl, Or.inl rfl, trivial⟩
    · replace h := ite_t q8 h
      refine q_aload hX dL_law_2986 rfl ?_
      refine q_iconst hX dL_law_2988 (v := (nI 0)) (by decide) ?_
      refine q_dald hX dL_law_2989 ?_
      refine q_fload hX dL_law_2990 rfl ?_
      obtain ⟨z9, h⟩ := h
      refine q_f2d hX dL_law_2992 z9 ?_
      refine q_dcmp hX dL_law_2993 ?_
      refine q_if_eq hX dL_law_2994 (tgt := 3019) (by decide) (fun q10 => ?_) (fun q10 => ?_)
      · replace h := ite_t q10 h
        refine q_goto hX dL_law_3019 (tgt := 3520) (by decide) ?_
        exact q_dr (w_L_law_b3520 hf hX hR hN hS hE  (r28 := r28) (s28 := s28) hx28  (by omega) (by omega) _ _ _  h) ⟨Or.inl rfl, Or.inl rfl, Or.inl rfl, Or.inl rfl, Or.inl rfl, Or.inl rfl, Or.inr rfl, Or.inr rfl, Or.inl rfl, Or.inl rfl, trivial⟩
      · replace h := ite_f q10 h
        refine q_aload hX dL_law_2997 rfl ?_
        refine q_iconst hX dL_law_2999 (v := (nI 0)) (by decide) ?_
        refine q_dald hX dL_law_3000 ?_
        refine q_aload hX dL_law_3001 rfl ?_
        refine q_iconst hX dL_law_3003 (v := (nI 0)) (by decide) ?_
        refine q_dald hX dL_law_3004 ?_
        refine q_dcmp hX dL_law_3005 ?_
        refine q_if_eq hX dL_law_3006 (tgt := 3017) (by decide) (fun q11 => ?_) (fun q11 => ?_)
        · replace h := ite_t q11 h
          refine q_iconst hX dL_law_3017 (v := (nI 0)) (by decide) ?_
          exact hE dL_law_3018 (by omega) (by omega) h
        · replace h := ite_f q11 h
          refine q_fload hX dL_law_3009 rfl ?_
          refine q_fload hX dL_law_3011 rfl ?_
          refine q_fcmp hX dL_law_3013 ?_
          refine q_if_ne hX dL_law_3014 (tgt := 3019) (by decide) (fun q12 => ?_) (fun q12 => ?_)
          · replace h := ite_f q12 h
            refine q_goto hX dL_law_3019 (tgt := 3520) (by decide) ?_
            exact q_dr (w_L_law_b3520 hf hX hR hN hS hE  (r28 := r28) (s28 := s28) hx28  (by omega) (by omega) _ _ _  h) ⟨Or.inl rfl, Or.inl rfl, Or.inl rfl, Or.inl rfl, Or.inl rfl, Or.inl rfl, Or.inr rfl, Or.inr rfl, Or.inl rfl, Or.inl rfl, trivial⟩
          · replace h := ite_t q12 h
            refine q_iconst hX dL_law_3017 (v := (nI 0)) (by decide) ?_
            exact hE dL_law_3018 (by omega) (by omega) h
  · replace h := ite_f q7 h
    refine q_iconst hX dL_law_2979 (v := (nI 0)) (by decide) ?_
    exact hE dL_law_2980 (by omega) (by omega) h
set_option maxRecDepth 100000 in
set_option maxHeartbeats 4000000 in
theorem w_L_law_b3022 {X : XT} {D : DT} {l : Launch} {xs : Nat → Int32} {nn : Nat} {K : Int32 → IT → LT → Prop} {X28 : Int32 → IT → LT → Prop} (hf : l.stackTraces = false) (hX : OK X D cL_law "TeaHouseLaw" 10) (hR : Room2 X l D 17 603072 7223402) (hN : NCX X) (hS : ScrAt X D nn xs) (hE : EndAt X D K 603072 7223402) {r28 s28 : Nat} (hx28 : ∀ {c w : Nat}, c + r28 ≤ 603072 → w + s28 ≤ 7223402 → ∀ (v5 : Int32) (I : IT) (L : LT), X28 v5 I L → J2 X D 10 c w I L 28 [.ref 1000300, .ref 0, .ref 190, .ref 195, .ref 196, .int v5, .retAddr 0, .retAddr 0, .retAddr 0, .retAddr 0] []) : ∀ {c w : Nat}, c + (0 + r28) ≤ 603072 → w + (0 + s28) ≤ 7223402 → ∀ (v5 : Int32) (I : IT) (L : LT), f_L_law_b3022 xs nn X28 K v5 I L → J2 X D 10 c w I L 3022 [.ref 1000300, .ref 0, .ref 190, .ref 195, .ref 196, .int v5, .retAddr 0, .retAddr 0, .retAddr 0, .retAddr 0] [] := by
  intro c w hc hw v5 I L h
  rw [f_L_law_b3022] at h
  refine q_aload_n hX dL_law_3022 rfl ?_
  refine q_V_z hX hR (w_X8_isBalanced  h) lk_L_345 (rc2_of (ci := 9) rfl rfl) dL_law_3023 rfl rfl (Nat.le_of_ble_eq_true rfl) (by omega) (by omega) (by omega) ?_
  intro x1 I2 hrx1 h
  refine q_aload_n hX dL_law_3026 rfl ?_
  refine q_V_z hX hR (w_X9_isBalanced  h) lk_L_348 (rc2_of (ci := 10) rfl rfl) dL_law_3027 rfl rfl (Nat.le_of_ble_eq_true rfl) (by omega) (by omega) (by omega) ?_
  intro x3 I4 hrx3 h
  refine q_icmp_eq hX dL_law_3030 (tgt := 3520) (by decide) (fun q5 => ?_) (fun q5 => ?_)
  · replace h := ite_t q5 h
    exact q_dr (w_L_law_b3520 hf hX hR hN hS hE  (r28 := r28) (s28 := s28) hx28  (by omega) (by omega) _ _ _  h) ⟨Or.inl rfl, Or.inl rfl, Or.inl rfl, Or.inl rfl, Or.inl rfl, Or.inl rfl, Or.inl rfl, Or.inl rfl, Or.inl rfl, Or.inl rfl, trivial⟩
  · replace h := ite_f q5 h
    refine q_iconst hX dL_law_3033 (v := (nI 0)) (by decide) ?_
    exact hE dL_law_3034 (by omega) (by omega) h
set_option maxRecDepth 100000 in
set_option maxHeartbeats 4000000 in
theorem w_L_law_b3035 {X : XT} {D : DT} {l : Launch} {xs : Nat → Int32} {nn : Nat} {K : Int32 → IT → LT → Prop} {X28 : Int32 → IT → LT → Prop} (hf : l.stackTraces = false) (hX : OK X D cL_law "TeaHouseLaw" 10) (hR : Room2 X l D 17 603072 7223402) (hN : NCX X) (hS : ScrAt X D nn xs) (hE : EndAt X D K 603072 7223402) {r28 s28 : Nat} (hx28 : ∀ {c w : Nat}, c + r28 ≤ 603072 → w + s28 ≤ 7223402 → ∀ (v5 : Int32) (I : IT) (L : LT), X28 v5 I L → J2 X D 10 c w I L 28 [.ref 1000300, .ref 0, .ref 190, .ref 195, .ref 196, .int v5, .retAddr 0, .retAddr 0, .retAddr 0, .retAddr 0] []) : ∀ {c w : Nat}, c + (13 + r28) ≤ 603072 → w + (3846 + s28) ≤ 7223402 → ∀ (v5 : Int32) (I : IT) (L : LT), f_L_law_b3035 xs nn X28 K v5 I L → J2 X D 10 c w I L 3035 [.ref 1000300, .ref 0, .ref 190, .ref 195, .ref 196, .int v5, .retAddr 0, .retAddr 0, .retAddr 0, .retAddr 0] [] := by
  intro c w hc hw v5 I L h
  rw [f_L_law_b3035] at h
  refine q_aload_n hX dL_law_3035 rfl ?_
  refine q_aload_n hX dL_law_3036 rfl ?_
  refine q_iload hX dL_law_3037 rfl ?_
  refine q_iconst hX dL_law_3039 (v := (nI 1)) (by decide) ?_
  refine q_iadd hX dL_law_3040 ?_
  obtain ⟨z1, h⟩ := h
  refine q_sld hX hS dL_law_3041 z1 ?_
  refine q_aload_n hX dL_law_3042 rfl ?_
  refine q_SW hX hR hN (w_L_formatKettle hf  h) lk_LW_349 dL_law_3043 rfl rfl (Nat.le_of_ble_eq_true rfl) (by omega) (by omega) (by omega) ?_
  intro x2 I3 L4 h
  refine q_istore hX dL_law_3046 (by decide) (ls' := [_, _, _, _, _, _, _, _, _, _]) rfl ?_
  refine q_aload_n hX dL_law_3048 rfl ?_
  refine q_aload_n hX dL_law_3049 rfl ?_
  refine q_iload hX dL_law_3050 rfl ?_
  refine q_iconst hX dL_law_3052 (v := (nI 1)) (by decide) ?_
  refine q_iadd hX dL_law_3053 ?_
  refine q_sld hX hS dL_law_3054 z1 ?_
  refine q_V_i hX hR (w_X9_formatKettle  h) lk_L_351 (rc2_of (ci := 10) rfl rfl) dL_law_3055 rfl rfl (Nat.le_of_ble_eq_true rfl) (by omega) (by omega) (by omega) ?_
  intro x5 I6 h
  refine q_istore hX dL_law_3058 (by decide) (ls' := [_, _, _, _, _, _, _, _, _, _]) rfl ?_
  refine q_aload_n hX dL_law_3060 rfl ?_
  refine q_V_ip hX hR (w_X9_thrown  h) lk_L_166 (rc2_of (ci := 10) rfl rfl) dL_law_3061 rfl rfl (Nat.le_of_ble_eq_true rfl) (by omega) (by omega) (by omega) ?_
  intro x7 h
  refine q_iload hX dL_law_3064 rfl ?_
  refine q_icmp_eq hX dL_law_3066 (tgt := 3071) (by decide) (fun q8 => ?_) (fun q8 => ?_)
  · replace h := ite_t q8 h
    refine q_iload hX dL_law_3071 rfl ?_
    refine q_if_ne hX dL_law_3073 (tgt := 3088) (by decide) (fun q9 => ?_) (fun q9 => ?_)
    · replace h := ite_f q9 h
      refine q_goto hX dL_law_3088 (tgt := 3520) (by decide) ?_
      exact q_dr (w_L_law_b3520 hf hX hR hN hS hE  (r28 := r28) (s28 := s28) hx28  (by omega) (by omega) _ _ _  h) ⟨Or.inl rfl, Or.inl rfl, Or.inl rfl, Or.inl rfl, Or.inl rfl, Or.inl rfl, Or.inr rfl, Or.inr rfl, Or.inl rfl, Or.inl rfl, trivial⟩
    · replace h := ite_t q9 h
      refine q_aload_n hX dL_law_3076 rfl ?_
      refine q_iconst hX dL_law_3077 (v := (nI 0)) (by decide) ?_
      refine q_lald hX dL_law_3078 ?_
      refine q_iload hX dL_law_3079 rfl ?_
      refine q_i2l hX dL_law_3081 rfl ?_
      refine q_lcmp hX dL_law_3082 ?_
      refine q_if_eq hX dL_law_3083 (tgt := 3088) (by decide) (fun q10 => ?_) (fun q10 => ?_)
      · replace h := ite_t q10 h
        refine q_goto hX dL_law_3088 (tgt := 3520) (by decide) ?_
        exact q_dr (w_L_law_b3520 hf hX hR hN hS hE  (r28 := r28) (s28 := s28) hx28  (by omega) (by omega) _ _ _  h) ⟨Or.inl rfl, Or.inl rfl, Or.inl rfl, Or.inl rfl, Or.inl rfl, Or.inl rfl, Or.inr rfl, Or.inr rfl, Or.inl rfl, Or.inl rfl, trivial⟩
      · replace h := ite_f q10 h
        refine q_iconst hX dL_law_3086 (v := (nI 0)) (by decide) ?_
        exact hE dL_law_3087 (by omega) (by omega) h
  · replace h := ite_f q8 h
    refine q_iconst hX dL_law_3069 (v := (nI 0)) (by decide) ?_
    exact hE dL_law_3070 (by omega) (by omega) h
set_option maxRecDepth 100000 in
set_option maxHeartbeats 4000000 in
theorem w_L_law_b3091 {X : XT} {D : DT} {l : Launch} {xs : Nat → Int32} {nn : Nat} {K : Int32 → IT → LT → Prop} {X28 : Int32 → IT → LT → Prop} (hf : l.stackTraces = false) (hX : OK X D cL_law "TeaHouseLaw" 10) (hR : Room2 X l D 17 603072 7223402) (hN : NCX X) (hS : ScrAt X D nn xs) (hE : EndAt X D K 603072 7223402) {r28 s28 : Nat} (hx28 : ∀ {c w : Nat}, c + r28 ≤ 603072 → w + s28 ≤ 7223402 → ∀ (v5 : Int32) (I : IT) (L : LT), X28 v5 I L → J2 X D 10 c w I L 28 [.ref 1000300, .ref 0, .ref 190, .ref 195, .ref 196, .int v5, .retAddr 0, .retAddr 0, .retAddr 0, .retAddr 0] []) : ∀ {c w : Nat}, c + (11 + r28) ≤ 603072 → w + (3206 + s28) ≤ 7223402 → ∀ (v5 : Int32) (I : IT) (L : LT), f_L_law_b3091 xs nn X28 K v5 I L → J2 X D 10 c w I L 3091 [.ref 1000300, .ref 0, .ref 190, .ref 195, .ref 196, .int v5, .retAddr 0, .retAddr 0, .retAddr 0, .retAddr 0] [] := by
  intro c w hc hw v5 I L h
  rw [f_L_law_b3091] at h
  refine q_aload_n hX dL_law_3091 rfl ?_
  refine q_aload_n hX dL_law_3092 rfl ?_
  refine q_iload hX dL_law_3093 rfl ?_
  refine q_iconst hX dL_law_3095 (v := (nI 1)) (by decide) ?_
  refine q_iadd hX dL_law_3096 ?_
  obtain ⟨z1, h⟩ := h
  refine q_sld hX hS dL_law_3097 z1 ?_
  refine q_aload_n hX dL_law_3098 rfl ?_
  refine q_SW hX hR hN (w_L_formatOrder hf  h) lk_LW_352 dL_law_3099 rfl rfl (Nat.le_of_ble_eq_true rfl) (by omega) (by omega) (by omega) ?_
  intro x2 I3 L4 h
  refine q_istore hX dL_law_3102 (by decide) (ls' := [_, _, _, _, _, _, _, _, _, _]) rfl ?_
  refine q_aload_n hX dL_law_3104 rfl ?_
  refine q_aload_n hX dL_law_3105 rfl ?_
  refine q_iload hX dL_law_3106 rfl ?_
  refine q_iconst hX dL_law_3108 (v := (nI 1)) (by decide) ?_
  refine q_iadd hX dL_law_3109 ?_
  refine q_sld hX hS dL_law_3110 z1 ?_
  refine q_V_i hX hR (w_X9_formatOrder  h) lk_L_354 (rc2_of (ci := 10) rfl rfl) dL_law_3111 rfl rfl (Nat.le_of_ble_eq_true rfl) (by omega) (by omega) (by omega) ?_
  intro x5 I6 h
  refine q_istore hX dL_law_3114 (by decide) (ls' := [_, _, _, _, _, _, _, _, _, _]) rfl ?_
  refine q_aload_n hX dL_law_3116 rfl ?_
  refine q_V_ip hX hR (w_X9_thrown  h) lk_L_166 (rc2_of (ci := 10) rfl rfl) dL_law_3117 rfl rfl (Nat.le_of_ble_eq_true rfl) (by omega) (by omega) (by omega) ?_
  intro x7 h
  refine q_iload hX dL_law_3120 rfl ?_
  refine q_icmp_eq hX dL_law_3122 (tgt := 3127) (by decide) (fun q8 => ?_) (fun q8 => ?_)
  · replace h := ite_t q8 h
    refine q_iload hX dL_law_3127 rfl ?_
    refine q_if_ne hX dL_law_3129 (tgt := 3144) (by decide) (fun q9 => ?_) (fun q9 => ?_)
    · replace h := ite_f q9 h
      refine q_goto hX dL_law_3144 (tgt := 3520) (by decide) ?_
      exact q_dr (w_L_law_b3520 hf hX hR hN hS hE  (r28 := r28) (s28 := s28) hx28  (by omega) (by omega) _ _ _  h) ⟨Or.inl rfl, Or.inl rfl, Or.inl rfl, Or.inl rfl, Or.inl rfl, Or.inl rfl, Or.inr rfl, Or.inr rfl, Or.inl rfl, Or.inl rfl, trivial⟩
    · replace h := ite_t q9 h
      refine q_aload_n hX dL_law_3132 rfl ?_
      refine q_iconst hX dL_law_3133 (v := (nI 0)) (by decide) ?_
      refine q_lald hX dL_law_3134 ?_
      refine q_iload hX dL_law_3135 rfl ?_
      refine q_i2l hX dL_law_3137 rfl ?_
      refine q_lcmp hX dL_law_3138 ?_
      refine q_if_eq hX dL_law_3139 (tgt := 3144) (by decide) (fun q10 => ?_) (fun q10 => ?_)
      · replace h := ite_t q10 h
        refine q_goto hX dL_law_3144 (tgt := 3520) (by decide) ?_
        exact q_dr (w_L_law_b3520 hf hX hR hN hS hE  (r28 := r28) (s28 := s28) hx28  (by omega) (by omega) _ _ _  h) ⟨Or.inl rfl, Or.inl rfl, Or.inl rfl, Or.inl rfl, Or.inl rfl, Or.inl rfl, Or.inr rfl, Or.inr rfl, Or.inl rfl, Or.inl rfl, trivial⟩
      · replace h := ite_f q10 h
        refine q_iconst hX dL_law_3142 (v := (nI 0)) (by decide) ?_
        exact hE dL_law_3143 (by omega) (by omega) h
  · replace h := ite_f q8 h
    refine q_iconst hX dL_law_3125 (v := (nI 0)) (by decide) ?_
    exact hE dL_law_3126 (by omega) (by omega) h
set_option maxRecDepth 100000 in
set_option maxHeartbeats 4000000 in
theorem w_L_law_b3147 {X : XT} {D : DT} {l : Launch} {xs : Nat → Int32} {nn : Nat} {K : Int32 → IT → LT → Prop} {X28 : Int32 → IT → LT → Prop} (hf : l.stackTraces = false) (hX : OK X D cL_law "TeaHouseLaw" 10) (hR : Room2 X l D 17 603072 7223402) (hN : NCX X) (hS : ScrAt X D nn xs) (hE : EndAt X D K 603072 7223402) {r28 s28 : Nat} (hx28 : ∀ {c w : Nat}, c + r28 ≤ 603072 → w + s28 ≤ 7223402 → ∀ (v5 : Int32) (I : IT) (L : LT), X28 v5 I L → J2 X D 10 c w I L 28 [.ref 1000300, .ref 0, .ref 190, .ref 195, .ref 196, .int v5, .retAddr 0, .retAddr 0, .retAddr 0, .retAddr 0] []) : ∀ {c w : Nat}, c + (30 + r28) ≤ 603072 → w + (9600 + s28) ≤ 7223402 → ∀ (v5 : Int32) (I : IT) (L : LT), f_L_law_b3147 xs nn X28 K v5 I L → J2 X D 10 c w I L 3147 [.ref 1000300, .ref 0, .ref 190, .ref 195, .ref 196, .int v5, .retAddr 0, .retAddr 0, .retAddr 0, .retAddr 0] [] := by
  intro c w hc hw v5 I L h
  rw [f_L_law_b3147] at h
  refine q_aload_n hX dL_law_3147 rfl ?_
  refine q_V_i hX hR (w_X8_formatLedger  h) lk_L_355 (rc2_of (ci := 9) rfl rfl) dL_law_3148 rfl rfl (Nat.le_of_ble_eq_true rfl) (by omega) (by omega) (by omega) ?_
  intro x1 I2 h
  refine q_aload_n hX dL_law_3151 rfl ?_
  refine q_V_i hX hR (w_X9_formatLedger  h) lk_L_358 (rc2_of (ci := 10) rfl rfl) dL_law_3152 rfl rfl (Nat.le_of_ble_eq_true rfl) (by omega) (by omega) (by omega) ?_
  intro x3 I4 h
  refine q_icmp_eq hX dL_law_3155 (tgt := 3520) (by decide) (fun q5 => ?_) (fun q5 => ?_)
  · replace h := ite_t q5 h
    exact q_dr (w_L_law_b3520 hf hX hR hN hS hE  (r28 := r28) (s28 := s28) hx28  (by omega) (by omega) _ _ _  h) ⟨Or.inl rfl, Or.inl rfl, Or.inl rfl, Or.inl rfl, Or.inl rfl, Or.inl rfl, Or.inl rfl, Or.inl rfl, Or.inl rfl, Or.inl rfl, trivial⟩
  · replace h := ite_f q5 h
    refine q_iconst hX dL_law_3158 (v := (nI 0)) (by decide) ?_
    exact hE dL_law_3159 (by omega) (by omega) h
set_option maxRecDepth 100000 in
set_option maxHeartbeats 4000000 in
theorem w_L_law_b3160 {X : XT} {D : DT} {l : Launch} {xs : Nat → Int32} {nn : Nat} {K : Int32 → IT → LT → Prop} {X28 : Int32 → IT → LT → Prop} (hf : l.stackTraces = false) (hX : OK X D cL_law "TeaHouseLaw" 10) (hR : Room2 X l D 17 603072 7223402) (hN : NCX X) (hS : ScrAt X D nn xs) (hE : EndAt X D K 603072 7223402) {r28 s28 : Nat} (hx28 : ∀ {c w : Nat}, c + r28 ≤ 603072 → w + s28 ≤ 7223402 → ∀ (v5 : Int32) (I : IT) (L : LT), X28 v5 I L → J2 X D 10 c w I L 28 [.ref 1000300, .ref 0, .ref 190, .ref 195, .ref 196, .int v5, .retAddr 0, .retAddr 0, .retAddr 0, .retAddr 0] []) : ∀ {c w : Nat}, c + (1 + r28) ≤ 603072 → w + (6 + s28) ≤ 7223402 → ∀ (v5 : Int32) (I : IT) (L : LT), f_L_law_b3160 xs nn X28 K v5 I L → J2 X D 10 c w I L 3160 [.ref 1000300, .ref 0, .ref 190, .ref 195, .ref 196, .int v5, .retAddr 0, .retAddr 0, .retAddr 0, .retAddr 0] [] := by
  intro c w hc hw v5 I L h
  rw [f_L_law_b3160] at h
  refine q_aload_n hX dL_law_3160 rfl ?_
  refine q_aload_n hX dL_law_3161 rfl ?_
  refine q_iload hX dL_law_3162 rfl ?_
  refine q_iconst hX dL_law_3164 (v := (nI 1)) (by decide) ?_
  refine q_iadd hX dL_law_3165 ?_
  obtain ⟨z1, h⟩ := h
  refine q_sld hX hS dL_law_3166 z1 ?_
  refine q_aload_n hX dL_law_3167 rfl ?_
  refine q_SW hX hR hN (w_L_lineChar hf  h) lk_LW_359 dL_law_3168 rfl rfl (Nat.le_of_ble_eq_true rfl) (by omega) (by omega) (by omega) ?_
  intro x2 I3 L4 h
  refine q_istore hX dL_law_3171 (by decide) (ls' := [_, _, _, _, _, _, _, _, _, _]) rfl ?_
  refine q_aload_n hX dL_law_3173 rfl ?_
  refine q_aload_n hX dL_law_3174 rfl ?_
  refine q_iload hX dL_law_3175 rfl ?_
  refine q_iconst hX dL_law_3177 (v := (nI 1)) (by decide) ?_
  refine q_iadd hX dL_law_3178 ?_
  refine q_sld hX hS dL_law_3179 z1 ?_
  refine q_V_c hX hR (w_X9_lineChar  h) lk_L_361 (rc2_of (ci := 10) rfl rfl) dL_law_3180 rfl rfl (Nat.le_of_ble_eq_true rfl) (by omega) (by omega) (by omega) ?_
  intro x5 I6 hrx5 h
  refine q_istore hX dL_law_3183 (by decide) (ls' := [_, _, _, _, _, _, _, _, _, _]) rfl ?_
  refine q_aload_n hX dL_law_3185 rfl ?_
  refine q_V_ip hX hR (w_X9_thrown  h) lk_L_166 (rc2_of (ci := 10) rfl rfl) dL_law_3186 rfl rfl (Nat.le_of_ble_eq_true rfl) (by omega) (by omega) (by omega) ?_
  intro x7 h
  refine q_iload hX dL_law_3189 rfl ?_
  refine q_icmp_eq hX dL_law_3191 (tgt := 3196) (by decide) (fun q8 => ?_) (fun q8 => ?_)
  · replace h := ite_t q8 h
    refine q_iload hX dL_law_3196 rfl ?_
    refine q_if_ne hX dL_law_3198 (tgt := 3213) (by decide) (fun q9 => ?_) (fun q9 => ?_)
    · replace h := ite_f q9 h
      refine q_goto hX dL_law_3213 (tgt := 3520) (by decide) ?_
      exact q_dr (w_L_law_b3520 hf hX hR hN hS hE  (r28 := r28) (s28 := s28) hx28  (by omega) (by omega) _ _ _  h) ⟨Or.inl rfl, Or.inl rfl, Or.inl rfl, Or.inl rfl, Or.inl rfl, Or.inl rfl, Or.inr rfl, Or.inr rfl, Or.inl rfl, Or.inl rfl, trivial⟩
    · replace h := ite_t q9 h
      refine q_aload_n hX dL_law_3201 rfl ?_
      refine q_iconst hX dL_law_3202 (v := (nI 0)) (by decide) ?_
      refine q_lald hX dL_law_3203 ?_
      refine q_iload hX dL_law_3204 rfl ?_
      refine q_i2l hX dL_law_3206 rfl ?_
      refine q_lcmp hX dL_law_3207 ?_
      refine q_if_eq hX dL_law_3208 (tgt := 3213) (by decide) (fun q10 => ?_) (fun q10 => ?_)
      · replace h := ite_t q10 h
        refine q_goto hX dL_law_3213 (tgt := 3520) (by decide) ?_
        exact q_dr (w_L_law_b3520 hf hX hR hN hS hE  (r28 := r28) (s28 := s28) hx28  (by omega) (by omega) _ _ _  h) ⟨Or.inl rfl, Or.inl rfl, Or.inl rfl, Or.inl rfl, Or.inl rfl, Or.inl rfl, Or.inr rfl, Or.inr rfl, Or.inl rfl, Or.inl rfl, trivial⟩
      · replace h := ite_f q10 h
        refine q_iconst hX dL_law_3211 (v := (nI 0)) (by decide) ?_
        exact hE dL_law_3212 (by omega) (by omega) h
  · replace h := ite_f q8 h
    refine q_iconst hX dL_law_3194 (v := (nI 0)) (by decide) ?_
    exact hE dL_law_3195 (by omega) (by omega) h
set_option maxRecDepth 100000 in
set_option maxHeartbeats 4000000 in
theorem w_L_law_b3216 {X : XT} {D : DT} {l : Launch} {xs : Nat → Int32} {nn : Nat} {K : Int32 → IT → LT → Prop} {X28 : Int32 → IT → LT → Prop} (hf : l.stackTraces = false) (hX : OK X D cL_law "TeaHouseLaw" 10) (hR : Room2 X l D 17 603072 7223402) (hN : NCX X) (hS : ScrAt X D nn xs) (hE : EndAt X D K 603072 7223402) {r28 s28 : Nat} (hx28 : ∀ {c w : Nat}, c + r28 ≤ 603072 → w + s28 ≤ 7223402 → ∀ (v5 : Int32) (I : IT) (L : LT), X28 v5 I L → J2 X D 10 c w I L 28 [.ref 1000300, .ref 0, .ref 190, .ref 195, .ref 196, .int v5, .retAddr 0, .retAddr 0, .retAddr 0, .retAddr 0] []) : ∀ {c w : Nat}, c + (1 + r28) ≤ 603072 → w + (6 + s28) ≤ 7223402 → ∀ (v5 : Int32) (I : IT) (L : LT), f_L_law_b3216 xs nn X28 K v5 I L → J2 X D 10 c w I L 3216 [.ref 1000300, .ref 0, .ref 190, .ref 195, .ref 196, .int v5, .retAddr 0, .retAddr 0, .retAddr 0, .retAddr 0] [] := by
  intro c w hc hw v5 I L h
  rw [f_L_law_b3216] at h
  refine q_aload_n hX dL_law_3216 rfl ?_
  refine q_aload_n hX dL_law_3217 rfl ?_
  refine q_iload hX dL_law_3218 rfl ?_
  refine q_iconst hX dL_law_3220 (v := (nI 1)) (by decide) ?_
  refine q_iadd hX dL_law_3221 ?_
  obtain ⟨z1, h⟩ := h
  refine q_sld hX hS dL_law_3222 z1 ?_
  refine q_i2c hX dL_law_3223 ?_
  refine q_aload_n hX dL_law_3224 rfl ?_
  refine q_SW hX hR hN (w_L_append hf (isC_i2c _) h) lk_LW_362 dL_law_3225 rfl rfl (Nat.le_of_ble_eq_true rfl) (by omega) (by omega) (by omega) ?_
  intro x2 I3 L4 h
  refine q_istore hX dL_law_3228 (by decide) (ls' := [_, _, _, _, _, _, _, _, _, _]) rfl ?_
  refine q_aload_n hX dL_law_3230 rfl ?_
  refine q_aload_n hX dL_law_3231 rfl ?_
  refine q_iload hX dL_law_3232 rfl ?_
  refine q_iconst hX dL_law_3234 (v := (nI 1)) (by decide) ?_
  refine q_iadd hX dL_law_3235 ?_
  refine q_sld hX hS dL_law_3236 z1 ?_
  refine q_i2c hX dL_law_3237 ?_
  refine q_V_i hX hR (w_X9_append (isC_i2c _) h) lk_L_365 (rc2_of (ci := 10) rfl rfl) dL_law_3238 rfl rfl (Nat.le_of_ble_eq_true rfl) (by omega) (by omega) (by omega) ?_
  intro x5 I6 h
  refine q_istore hX dL_law_3241 (by decide) (ls' := [_, _, _, _, _, _, _, _, _, _]) rfl ?_
  refine q_aload_n hX dL_law_3243 rfl ?_
  refine q_V_ip hX hR (w_X9_thrown  h) lk_L_166 (rc2_of (ci := 10) rfl rfl) dL_law_3244 rfl rfl (Nat.le_of_ble_eq_true rfl) (by omega) (by omega) (by omega) ?_
  intro x7 h
  refine q_iload hX dL_law_3247 rfl ?_
  refine q_icmp_eq hX dL_law_3249 (tgt := 3254) (by decide) (fun q8 => ?_) (fun q8 => ?_)
  · replace h := ite_t q8 h
    refine q_iload hX dL_law_3254 rfl ?_
    refine q_if_ne hX dL_law_3256 (tgt := 3271) (by decide) (fun q9 => ?_) (fun q9 => ?_)
    · replace h := ite_f q9 h
      refine q_goto hX dL_law_3271 (tgt := 3520) (by decide) ?_
      exact q_dr (w_L_law_b3520 hf hX hR hN hS hE  (r28 := r28) (s28 := s28) hx28  (by omega) (by omega) _ _ _  h) ⟨Or.inl rfl, Or.inl rfl, Or.inl rfl, Or.inl rfl, Or.inl rfl, Or.inl rfl, Or.inr rfl, Or.inr rfl, Or.inl rfl, Or.inl rfl, trivial⟩
    · replace h := ite_t q9 h
      refine q_aload_n hX dL_law_3259 rfl ?_
      refine q_iconst hX dL_law_3260 (v := (nI 0)) (by decide) ?_
      refine q_lald hX dL_law_3261 ?_
      refine q_iload hX dL_law_3262 rfl ?_
      refine q_i2l hX dL_law_3264 rfl ?_
      refine q_lcmp hX dL_law_3265 ?_
      refine q_if_eq hX dL_law_3266 (tgt := 3271) (by decide) (fun q10 => ?_) (fun q10 => ?_)
      · replace h := ite_t q10 h
        refine q_goto hX dL_law_3271 (tgt := 3520) (by decide) ?_
        exact q_dr (w_L_law_b3520 hf hX hR hN hS hE  (r28 := r28) (s28 := s28) hx28  (by omega) (by omega) _ _ _  h) ⟨Or.inl rfl, Or.inl rfl, Or.inl rfl, Or.inl rfl, Or.inl rfl, Or.inl rfl, Or.inr rfl, Or.inr rfl, Or.inl rfl, Or.inl rfl, trivial⟩
      · replace h := ite_f q10 h
        refine q_iconst hX dL_law_3269 (v := (nI 0)) (by decide) ?_
        exact hE dL_law_3270 (by omega) (by omega) h
  · replace h := ite_f q8 h
    refine q_iconst hX dL_law_3252 (v := (nI 0)) (by decide) ?_
    exact hE dL_law_3253 (by omega) (by omega) h
set_option maxRecDepth 100000 in
set_option maxHeartbeats 4000000 in
theorem w_L_law_b3274 {X : XT} {D : DT} {l : Launch} {xs : Nat → Int32} {nn : Nat} {K : Int32 → IT → LT → Prop} {X28 : Int32 → IT → LT → Prop} (hf : l.stackTraces = false) (hX : OK X D cL_law "TeaHouseLaw" 10) (hR : Room2 X l D 17 603072 7223402) (hN : NCX X) (hS : ScrAt X D nn xs) (hE : EndAt X D K 603072 7223402) {r28 s28 : Nat} (hx28 : ∀ {c w : Nat}, c + r28 ≤ 603072 → w + s28 ≤ 7223402 → ∀ (v5 : Int32) (I : IT) (L : LT), X28 v5 I L → J2 X D 10 c w I L 28 [.ref 1000300, .ref 0, .ref 190, .ref 195, .ref 196, .int v5, .retAddr 0, .retAddr 0, .retAddr 0, .retAddr 0] []) : ∀ {c w : Nat}, c + (1 + r28) ≤ 603072 → w + (6 + s28) ≤ 7223402 → ∀ (v5 : Int32) (I : IT) (L : LT), f_L_law_b3274 xs nn X28 K v5 I L → J2 X D 10 c w I L 3274 [.ref 1000300, .ref 0, .ref 190, .ref 195, .ref 196, .int v5, .retAddr 0, .retAddr 0, .retAddr 0, .retAddr 0] [] := by
  intro c w hc hw v5 I L h
  rw [f_L_law_b3274] at h
  refine q_aload_n hX dL_law_3274 rfl ?_
  refine q_aload_n hX dL_law_3275 rfl ?_
  refine q_SW hX hR hN (w_L_run hf  h) lk_LW_366 dL_law_3276 rfl rfl (Nat.le_of_ble_eq_true rfl) (by omega) (by omega) (by omega) ?_
  intro x1 I2 L3 h
  refine q_istore hX dL_law_3279 (by decide) (ls' := [_, _, _, _, _, _, _, _, _, _]) rfl ?_
  refine q_aload_n hX dL_law_3281 rfl ?_
  refine q_V_i hX hR (w_X9_run  h) lk_L_368 (rc2_of (ci := 10) rfl rfl) dL_law_3282 rfl rfl (Nat.le_of_ble_eq_true rfl) (by omega) (by omega) (by omega) ?_
  intro x4 I5 h
  refine q_istore hX dL_law_3285 (by decide) (ls' := [_, _, _, _, _, _, _, _, _, _]) rfl ?_
  refine q_aload_n hX dL_law_3287 rfl ?_
  refine q_V_ip hX hR (w_X9_thrown  h) lk_L_166 (rc2_of (ci := 10) rfl rfl) dL_law_3288 rfl rfl (Nat.le_of_ble_eq_true rfl) (by omega) (by omega) (by omega) ?_
  intro x6 h
  refine q_iload hX dL_law_3291 rfl ?_
  refine q_icmp_eq hX dL_law_3293 (tgt := 3298) (by decide) (fun q7 => ?_) (fun q7 => ?_)
  · replace h := ite_t q7 h
    refine q_iload hX dL_law_3298 rfl ?_
    refine q_if_ne hX dL_law_3300 (tgt := 3315) (by decide) (fun q8 => ?_) (fun q8 => ?_)
    · replace h := ite_f q8 h
      refine q_goto hX dL_law_3315 (tgt := 3520) (by decide) ?_
      exact q_dr (w_L_law_b3520 hf hX hR hN hS hE  (r28 := r28) (s28 := s28) hx28  (by omega) (by omega) _ _ _  h) ⟨Or.inl rfl, Or.inl rfl, Or.inl rfl, Or.inl rfl, Or.inl rfl, Or.inl rfl, Or.inr rfl, Or.inr rfl, Or.inl rfl, Or.inl rfl, trivial⟩
    · replace h := ite_t q8 h
      refine q_aload_n hX dL_law_3303 rfl ?_
      refine q_iconst hX dL_law_3304 (v := (nI 0)) (by decide) ?_
      refine q_lald hX dL_law_3305 ?_
      refine q_iload hX dL_law_3306 rfl ?_
      refine q_i2l hX dL_law_3308 rfl ?_
      refine q_lcmp hX dL_law_3309 ?_
      refine q_if_eq hX dL_law_3310 (tgt := 3315) (by decide) (fun q9 => ?_) (fun q9 => ?_)
      · replace h := ite_t q9 h
        refine q_goto hX dL_law_3315 (tgt := 3520) (by decide) ?_
        exact q_dr (w_L_law_b3520 hf hX hR hN hS hE  (r28 := r28) (s28 := s28) hx28  (by omega) (by omega) _ _ _  h) ⟨Or.inl rfl, Or.inl rfl, Or.inl rfl, Or.inl rfl, Or.inl rfl, Or.inl rfl, Or.inr rfl, Or.inr rfl, Or.inl rfl, Or.inl rfl, trivial⟩
      · replace h := ite_f q9 h
        refine q_iconst hX dL_law_3313 (v := (nI 0)) (by decide) ?_
        exact hE dL_law_3314 (by omega) (by omega) h
  · replace h := ite_f q7 h
    refine q_iconst hX dL_law_3296 (v := (nI 0)) (by decide) ?_
    exact hE dL_law_3297 (by omega) (by omega) h
set_option maxRecDepth 100000 in
set_option maxHeartbeats 4000000 in
theorem w_L_law_b3318 {X : XT} {D : DT} {l : Launch} {xs : Nat → Int32} {nn : Nat} {K : Int32 → IT → LT → Prop} {X28 : Int32 → IT → LT → Prop} (hf : l.stackTraces = false) (hX : OK X D cL_law "TeaHouseLaw" 10) (hR : Room2 X l D 17 603072 7223402) (hN : NCX X) (hS : ScrAt X D nn xs) (hE : EndAt X D K 603072 7223402) {r28 s28 : Nat} (hx28 : ∀ {c w : Nat}, c + r28 ≤ 603072 → w + s28 ≤ 7223402 → ∀ (v5 : Int32) (I : IT) (L : LT), X28 v5 I L → J2 X D 10 c w I L 28 [.ref 1000300, .ref 0, .ref 190, .ref 195, .ref 196, .int v5, .retAddr 0, .retAddr 0, .retAddr 0, .retAddr 0] []) : ∀ {c w : Nat}, c + (1 + r28) ≤ 603072 → w + (6 + s28) ≤ 7223402 → ∀ (v5 : Int32) (I : IT) (L : LT), f_L_law_b3318 xs nn X28 K v5 I L → J2 X D 10 c w I L 3318 [.ref 1000300, .ref 0, .ref 190, .ref 195, .ref 196, .int v5, .retAddr 0, .retAddr 0, .retAddr 0, .retAddr 0] [] := by
  intro c w hc hw v5 I L h
  rw [f_L_law_b3318] at h
  refine q_aload_n hX dL_law_3318 rfl ?_
  refine q_aload_n hX dL_law_3319 rfl ?_
  refine q_SW hX hR hN (w_L_errorPosition hf  h) lk_LW_369 dL_law_3320 rfl rfl (Nat.le_of_ble_eq_true rfl) (by omega) (by omega) (by omega) ?_
  intro x1 I2 L3 h
  refine q_istore hX dL_law_3323 (by decide) (ls' := [_, _, _, _, _, _, _, _, _, _]) rfl ?_
  refine q_aload_n hX dL_law_3325 rfl ?_
  refine q_V_i hX hR (w_X9_errorPosition  h) lk_L_371 (rc2_of (ci := 10) rfl rfl) dL_law_3326 rfl rfl (Nat.le_of_ble_eq_true rfl) (by omega) (by omega) (by omega) ?_
  intro x4 I5 h
  refine q_istore hX dL_law_3329 (by decide) (ls' := [_, _, _, _, _, _, _, _, _, _]) rfl ?_
  refine q_aload_n hX dL_law_3331 rfl ?_
  refine q_V_ip hX hR (w_X9_thrown  h) lk_L_166 (rc2_of (ci := 10) rfl rfl) dL_law_3332 rfl rfl (Nat.le_of_ble_eq_true rfl) (by omega) (by omega) (by omega) ?_
  intro x6 h
  refine q_iload hX dL_law_3335 rfl ?_
  refine q_icmp_eq hX dL_law_3337 (tgt := 3342) (by decide) (fun q7 => ?_) (fun q7 => ?_)
  · replace h := ite_t q7 h
    refine q_iload hX dL_law_3342 rfl ?_
    refine q_if_ne hX dL_law_3344 (tgt := 3359) (by decide) (fun q8 => ?_) (fun q8 => ?_)
    · replace h := ite_f q8 h
      refine q_goto hX dL_law_3359 (tgt := 3520) (by decide) ?_
      exact q_dr (w_L_law_b3520 hf hX hR hN hS hE  (r28 := r28) (s28 := s28) hx28  (by omega) (by omega) _ _ _  h) ⟨Or.inl rfl, Or.inl rfl, Or.inl rfl, Or.inl rfl, Or.inl rfl, Or.inl rfl, Or.inr rfl, Or.inr rfl, Or.inl rfl, Or.inl rfl, trivial⟩
    · replace h := ite_t q8 h
      refine q_aload_n hX dL_law_3347 rfl ?_
      refine q_iconst hX dL_law_3348 (v := (nI 0)) (by decide) ?_
      refine q_lald hX dL_law_3349 ?_
      refine q_iload hX dL_law_3350 rfl ?_
      refine q_i2l hX dL_law_3352 rfl ?_
      refine q_lcmp hX dL_law_3353 ?_
      refine q_if_eq hX dL_law_3354 (tgt := 3359) (by decide) (fun q9 => ?_) (fun q9 => ?_)
      · replace h := ite_t q9 h
        refine q_goto hX dL_law_3359 (tgt := 3520) (by decide) ?_
        exact q_dr (w_L_law_b3520 hf hX hR hN hS hE  (r28 := r28) (s28 := s28) hx28  (by omega) (by omega) _ _ _  h) ⟨Or.inl rfl, Or.inl rfl, Or.inl rfl, Or.inl rfl, Or.inl rfl, Or.inl rfl, Or.inr rfl, Or.inr rfl, Or.inl rfl, Or.inl rfl, trivial⟩
      · replace h := ite_f q9 h
        refine q_iconst hX dL_law_3357 (v := (nI 0)) (by decide) ?_
        exact hE dL_law_3358 (by omega) (by omega) h
  · replace h := ite_f q7 h
    refine q_iconst hX dL_law_3340 (v := (nI 0)) (by decide) ?_
    exact hE dL_law_3341 (by omega) (by omega) h
set_option maxRecDepth 100000 in
set_option maxHeartbeats 4000000 in
theorem w_L_law_b3362 {X : XT} {D : DT} {l : Launch} {xs : Nat → Int32} {nn : Nat} {K : Int32 → IT → LT → Prop} {X28 : Int32 → IT → LT → Prop} (hf : l.stackTraces = false) (hX : OK X D cL_law "TeaHouseLaw" 10) (hR : Room2 X l D 17 603072 7223402) (hN : NCX X) (hS : ScrAt X D nn xs) (hE : EndAt X D K 603072 7223402) {r28 s28 : Nat} (hx28 : ∀ {c w : Nat}, c + r28 ≤ 603072 → w + s28 ≤ 7223402 → ∀ (v5 : Int32) (I : IT) (L : LT), X28 v5 I L → J2 X D 10 c w I L 28 [.ref 1000300, .ref 0, .ref 190, .ref 195, .ref 196, .int v5, .retAddr 0, .retAddr 0, .retAddr 0, .retAddr 0] []) : ∀ {c w : Nat}, c + (1 + r28) ≤ 603072 → w + (6 + s28) ≤ 7223402 → ∀ (v5 : Int32) (I : IT) (L : LT), f_L_law_b3362 xs nn X28 K v5 I L → J2 X D 10 c w I L 3362 [.ref 1000300, .ref 0, .ref 190, .ref 195, .ref 196, .int v5, .retAddr 0, .retAddr 0, .retAddr 0, .retAddr 0] [] := by
  intro c w hc hw v5 I L h
  rw [f_L_law_b3362] at h
  refine q_aload_n hX dL_law_3362 rfl ?_
  refine q_aload_n hX dL_law_3363 rfl ?_
  refine q_SW hX hR hN (w_L_failedCommand hf  h) lk_LW_372 dL_law_3364 rfl rfl (Nat.le_of_ble_eq_true rfl) (by omega) (by omega) (by omega) ?_
  intro x1 I2 L3 h
  refine q_istore hX dL_law_3367 (by decide) (ls' := [_, _, _, _, _, _, _, _, _, _]) rfl ?_
  refine q_aload_n hX dL_law_3369 rfl ?_
  refine q_V_i hX hR (w_X9_failedCommand  h) lk_L_374 (rc2_of (ci := 10) rfl rfl) dL_law_3370 rfl rfl (Nat.le_of_ble_eq_true rfl) (by omega) (by omega) (by omega) ?_
  intro x4 I5 h
  refine q_istore hX dL_law_3373 (by decide) (ls' := [_, _, _, _, _, _, _, _, _, _]) rfl ?_
  refine q_aload_n hX dL_law_3375 rfl ?_
  refine q_V_ip hX hR (w_X9_thrown  h) lk_L_166 (rc2_of (ci := 10) rfl rfl) dL_law_3376 rfl rfl (Nat.le_of_ble_eq_true rfl) (by omega) (by omega) (by omega) ?_
  intro x6 h
  refine q_iload hX dL_law_3379 rfl ?_
  refine q_icmp_eq hX dL_law_3381 (tgt := 3386) (by decide) (fun q7 => ?_) (fun q7 => ?_)
  · replace h := ite_t q7 h
    refine q_iload hX dL_law_3386 rfl ?_
    refine q_if_ne hX dL_law_3388 (tgt := 3403) (by decide) (fun q8 => ?_) (fun q8 => ?_)
    · replace h := ite_f q8 h
      refine q_goto hX dL_law_3403 (tgt := 3520) (by decide) ?_
      exact q_dr (w_L_law_b3520 hf hX hR hN hS hE  (r28 := r28) (s28 := s28) hx28  (by omega) (by omega) _ _ _  h) ⟨Or.inl rfl, Or.inl rfl, Or.inl rfl, Or.inl rfl, Or.inl rfl, Or.inl rfl, Or.inr rfl, Or.inr rfl, Or.inl rfl, Or.inl rfl, trivial⟩
    · replace h := ite_t q8 h
      refine q_aload_n hX dL_law_3391 rfl ?_
      refine q_iconst hX dL_law_3392 (v := (nI 0)) (by decide) ?_
      refine q_lald hX dL_law_3393 ?_
      refine q_iload hX dL_law_3394 rfl ?_
      refine q_i2l hX dL_law_3396 rfl ?_
      refine q_lcmp hX dL_law_3397 ?_
      refine q_if_eq hX dL_law_3398 (tgt := 3403) (by decide) (fun q9 => ?_) (fun q9 => ?_)
      · replace h := ite_t q9 h
        refine q_goto hX dL_law_3403 (tgt := 3520) (by decide) ?_
        exact q_dr (w_L_law_b3520 hf hX hR hN hS hE  (r28 := r28) (s28 := s28) hx28  (by omega) (by omega) _ _ _  h) ⟨Or.inl rfl, Or.inl rfl, Or.inl rfl, Or.inl rfl, Or.inl rfl, Or.inl rfl, Or.inr rfl, Or.inr rfl, Or.inl rfl, Or.inl rfl, trivial⟩
      · replace h := ite_f q9 h
        refine q_iconst hX dL_law_3401 (v := (nI 0)) (by decide) ?_
        exact hE dL_law_3402 (by omega) (by omega) h
  · replace h := ite_f q7 h
    refine q_iconst hX dL_law_3384 (v := (nI 0)) (by decide) ?_
    exact hE dL_law_3385 (by omega) (by omega) h
set_option maxRecDepth 100000 in
set_option maxHeartbeats 4000000 in
theorem w_L_law_b3406 {X : XT} {D : DT} {l : Launch} {xs : Nat → Int32} {nn : Nat} {K : Int32 → IT → LT → Prop} {X28 : Int32 → IT → LT → Prop} (hf : l.stackTraces = false) (hX : OK X D cL_law "TeaHouseLaw" 10) (hR : Room2 X l D 17 603072 7223402) (hN : NCX X) (hS : ScrAt X D nn xs) (hE : EndAt X D K 603072 7223402) {r28 s28 : Nat} (hx28 : ∀ {c w : Nat}, c + r28 ≤ 603072 → w + s28 ≤ 7223402 → ∀ (v5 : Int32) (I : IT) (L : LT), X28 v5 I L → J2 X D 10 c w I L 28 [.ref 1000300, .ref 0, .ref 190, .ref 195, .ref 196, .int v5, .retAddr 0, .retAddr 0, .retAddr 0, .retAddr 0] []) : ∀ {c w : Nat}, c + (0 + r28) ≤ 603072 → w + (0 + s28) ≤ 7223402 → ∀ (v5 : Int32) (I : IT) (L : LT), f_L_law_b3406 xs nn X28 K v5 I L → J2 X D 10 c w I L 3406 [.ref 1000300, .ref 0, .ref 190, .ref 195, .ref 196, .int v5, .retAddr 0, .retAddr 0, .retAddr 0, .retAddr 0] [] := by
  intro c w hc hw v5 I L h
  rw [f_L_law_b3406] at h
  refine q_aload_n hX dL_law_3406 rfl ?_
  refine q_V_ip hX hR (w_X8_undoableCount  h) lk_L_375 (rc2_of (ci := 9) rfl rfl) dL_law_3407 rfl rfl (Nat.le_of_ble_eq_true rfl) (by omega) (by omega) (by omega) ?_
  intro x1 h
  refine q_aload_n hX dL_law_3410 rfl ?_
  refine q_V_i hX hR (w_X9_undoableCount  h) lk_L_378 (rc2_of (ci := 10) rfl rfl) dL_law_3411 rfl rfl (Nat.le_of_ble_eq_true rfl) (by omega) (by omega) (by omega) ?_
  intro x2 I3 h
  refine q_icmp_eq hX dL_law_3414 (tgt := 3520) (by decide) (fun q4 => ?_) (fun q4 => ?_)
  · replace h := ite_t q4 h
    exact q_dr (w_L_law_b3520 hf hX hR hN hS hE  (r28 := r28) (s28 := s28) hx28  (by omega) (by omega) _ _ _  h) ⟨Or.inl rfl, Or.inl rfl, Or.inl rfl, Or.inl rfl, Or.inl rfl, Or.inl rfl, Or.inl rfl, Or.inl rfl, Or.inl rfl, Or.inl rfl, trivial⟩
  · replace h := ite_f q4 h
    refine q_iconst hX dL_law_3417 (v := (nI 0)) (by decide) ?_
    exact hE dL_law_3418 (by omega) (by omega) h
set_option maxRecDepth 100000 in
set_option maxHeartbeats 4000000 in
theorem w_L_law_b3419 {X : XT} {D : DT} {l : Launch} {xs : Nat → Int32} {nn : Nat} {K : Int32 → IT → LT → Prop} {X28 : Int32 → IT → LT → Prop} (hf : l.stackTraces = false) (hX : OK X D cL_law "TeaHouseLaw" 10) (hR : Room2 X l D 17 603072 7223402) (hN : NCX X) (hS : ScrAt X D nn xs) (hE : EndAt X D K 603072 7223402) {r28 s28 : Nat} (hx28 : ∀ {c w : Nat}, c + r28 ≤ 603072 → w + s28 ≤ 7223402 → ∀ (v5 : Int32) (I : IT) (L : LT), X28 v5 I L → J2 X D 10 c w I L 28 [.ref 1000300, .ref 0, .ref 190, .ref 195, .ref 196, .int v5, .retAddr 0, .retAddr 0, .retAddr 0, .retAddr 0] []) : ∀ {c w : Nat}, c + (1 + r28) ≤ 603072 → w + (6 + s28) ≤ 7223402 → ∀ (v5 : Int32) (I : IT) (L : LT), f_L_law_b3419 xs nn X28 K v5 I L → J2 X D 10 c w I L 3419 [.ref 1000300, .ref 0, .ref 190, .ref 195, .ref 196, .int v5, .retAddr 0, .retAddr 0, .retAddr 0, .retAddr 0] [] := by
  intro c w hc hw v5 I L h
  rw [f_L_law_b3419] at h
  refine q_aload_n hX dL_law_3419 rfl ?_
  refine q_aload_n hX dL_law_3420 rfl ?_
  refine q_SW hX hR hN (w_L_undo hf  h) lk_LW_379 dL_law_3421 rfl rfl (Nat.le_of_ble_eq_true rfl) (by omega) (by omega) (by omega) ?_
  intro x1 I2 L3 h
  refine q_istore hX dL_law_3424 (by decide) (ls' := [_, _, _, _, _, _, _, _, _, _]) rfl ?_
  refine q_aload_n hX dL_law_3426 rfl ?_
  refine q_V_i hX hR (w_X9_undo  h) lk_L_381 (rc2_of (ci := 10) rfl rfl) dL_law_3427 rfl rfl (Nat.le_of_ble_eq_true rfl) (by omega) (by omega) (by omega) ?_
  intro x4 I5 h
  refine q_istore hX dL_law_3430 (by decide) (ls' := [_, _, _, _, _, _, _, _, _, _]) rfl ?_
  refine q_aload_n hX dL_law_3432 rfl ?_
  refine q_V_ip hX hR (w_X9_thrown  h) lk_L_166 (rc2_of (ci := 10) rfl rfl) dL_law_3433 rfl rfl (Nat.le_of_ble_eq_true rfl) (by omega) (by omega) (by omega) ?_
  intro x6 h
  refine q_iload hX dL_law_3436 rfl ?_
  refine q_icmp_eq hX dL_law_3438 (tgt := 3443) (by decide) (fun q7 => ?_) (fun q7 => ?_)
  · replace h := ite_t q7 h
    refine q_iload hX dL_law_3443 rfl ?_
    refine q_if_ne hX dL_law_3445 (tgt := 3460) (by decide) (fun q8 => ?_) (fun q8 => ?_)
    · replace h := ite_f q8 h
      refine q_goto hX dL_law_3460 (tgt := 3520) (by decide) ?_
      exact q_dr (w_L_law_b3520 hf hX hR hN hS hE  (r28 := r28) (s28 := s28) hx28  (by omega) (by omega) _ _ _  h) ⟨Or.inl rfl, Or.inl rfl, Or.inl rfl, Or.inl rfl, Or.inl rfl, Or.inl rfl, Or.inr rfl, Or.inr rfl, Or.inl rfl, Or.inl rfl, trivial⟩
    · replace h := ite_t q8 h
      refine q_aload_n hX dL_law_3448 rfl ?_
      refine q_iconst hX dL_law_3449 (v := (nI 0)) (by decide) ?_
      refine q_lald hX dL_law_3450 ?_
      refine q_iload hX dL_law_3451 rfl ?_
      refine q_i2l hX dL_law_3453 rfl ?_
      refine q_lcmp hX dL_law_3454 ?_
      refine q_if_eq hX dL_law_3455 (tgt := 3460) (by decide) (fun q9 => ?_) (fun q9 => ?_)
      · replace h := ite_t q9 h
        refine q_goto hX dL_law_3460 (tgt := 3520) (by decide) ?_
        exact q_dr (w_L_law_b3520 hf hX hR hN hS hE  (r28 := r28) (s28 := s28) hx28  (by omega) (by omega) _ _ _  h) ⟨Or.inl rfl, Or.inl rfl, Or.inl rfl, Or.inl rfl, Or.inl rfl, Or.inl rfl, Or.inr rfl, Or.inr rfl, Or.inl rfl, Or.inl rfl, trivial⟩
      · replace h := ite_f q9 h
        refine q_iconst hX dL_law_3458 (v := (nI 0)) (by decide) ?_
        exact hE dL_law_3459 (by omega) (by omega) h
  · replace h := ite_f q7 h
    refine q_iconst hX dL_law_3441 (v := (nI 0)) (by decide) ?_
    exact hE dL_law_3442 (by omega) (by omega) h
set_option maxRecDepth 100000 in
set_option maxHeartbeats 4000000 in
theorem w_L_law_b3463 {X : XT} {D : DT} {l : Launch} {xs : Nat → Int32} {nn : Nat} {K : Int32 → IT → LT → Prop} {X28 : Int32 → IT → LT → Prop} (hf : l.stackTraces = false) (hX : OK X D cL_law "TeaHouseLaw" 10) (hR : Room2 X l D 17 603072 7223402) (hN : NCX X) (hS : ScrAt X D nn xs) (hE : EndAt X D K 603072 7223402) {r28 s28 : Nat} (hx28 : ∀ {c w : Nat}, c + r28 ≤ 603072 → w + s28 ≤ 7223402 → ∀ (v5 : Int32) (I : IT) (L : LT), X28 v5 I L → J2 X D 10 c w I L 28 [.ref 1000300, .ref 0, .ref 190, .ref 195, .ref 196, .int v5, .retAddr 0, .retAddr 0, .retAddr 0, .retAddr 0] []) : ∀ {c w : Nat}, c + (0 + r28) ≤ 603072 → w + (0 + s28) ≤ 7223402 → ∀ (v5 : Int32) (I : IT) (L : LT), f_L_law_b3463 xs nn X28 K v5 I L → J2 X D 10 c w I L 3463 [.ref 1000300, .ref 0, .ref 190, .ref 195, .ref 196, .int v5, .retAddr 0, .retAddr 0, .retAddr 0, .retAddr 0] [] := by
  intro c w hc hw v5 I L h
  rw [f_L_law_b3463] at h
  refine q_aload_n hX dL_law_3463 rfl ?_
  refine q_V_i hX hR (w_X8_save  h) lk_L_382 (rc2_of (ci := 9) rfl rfl) dL_law_3464 rfl rfl (Nat.le_of_ble_eq_true rfl) (by omega) (by omega) (by omega) ?_
  intro x1 I2 h
  refine q_aload_n hX dL_law_3467 rfl ?_
  refine q_V_i hX hR (w_X9_save  h) lk_L_385 (rc2_of (ci := 10) rfl rfl) dL_law_3468 rfl rfl (Nat.le_of_ble_eq_true rfl) (by omega) (by omega) (by omega) ?_
  intro x3 I4 h
  refine q_icmp_eq hX dL_law_3471 (tgt := 3520) (by decide) (fun q5 => ?_) (fun q5 => ?_)
  · replace h := ite_t q5 h
    exact q_dr (w_L_law_b3520 hf hX hR hN hS hE  (r28 := r28) (s28 := s28) hx28  (by omega) (by omega) _ _ _  h) ⟨Or.inl rfl, Or.inl rfl, Or.inl rfl, Or.inl rfl, Or.inl rfl, Or.inl rfl, Or.inl rfl, Or.inl rfl, Or.inl rfl, Or.inl rfl, trivial⟩
  · replace h := ite_f q5 h
    refine q_iconst hX dL_law_3474 (v := (nI 0)) (by decide) ?_
    exact hE dL_law_3475 (by omega) (by omega) h
set_option maxRecDepth 100000 in
set_option maxHeartbeats 4000000 in
theorem w_L_law_b3476 {X : XT} {D : DT} {l : Launch} {xs : Nat → Int32} {nn : Nat} {K : Int32 → IT → LT → Prop} {X28 : Int32 → IT → LT → Prop} (hf : l.stackTraces = false) (hX : OK X D cL_law "TeaHouseLaw" 10) (hR : Room2 X l D 17 603072 7223402) (hN : NCX X) (hS : ScrAt X D nn xs) (hE : EndAt X D K 603072 7223402) {r28 s28 : Nat} (hx28 : ∀ {c w : Nat}, c + r28 ≤ 603072 → w + s28 ≤ 7223402 → ∀ (v5 : Int32) (I : IT) (L : LT), X28 v5 I L → J2 X D 10 c w I L 28 [.ref 1000300, .ref 0, .ref 190, .ref 195, .ref 196, .int v5, .retAddr 0, .retAddr 0, .retAddr 0, .retAddr 0] []) : ∀ {c w : Nat}, c + (1 + r28) ≤ 603072 → w + (6 + s28) ≤ 7223402 → ∀ (v5 : Int32) (I : IT) (L : LT), f_L_law_b3476 xs nn X28 K v5 I L → J2 X D 10 c w I L 3476 [.ref 1000300, .ref 0, .ref 190, .ref 195, .ref 196, .int v5, .retAddr 0, .retAddr 0, .retAddr 0, .retAddr 0] [] := by
  intro c w hc hw v5 I L h
  rw [f_L_law_b3476] at h
  refine q_aload_n hX dL_law_3476 rfl ?_
  refine q_aload_n hX dL_law_3477 rfl ?_
  refine q_SW hX hR hN (w_L_restore hf  h) lk_LW_386 dL_law_3478 rfl rfl (Nat.le_of_ble_eq_true rfl) (by omega) (by omega) (by omega) ?_
  intro x1 I2 L3 h
  refine q_istore hX dL_law_3481 (by decide) (ls' := [_, _, _, _, _, _, _, _, _, _]) rfl ?_
  refine q_aload_n hX dL_law_3483 rfl ?_
  refine q_V_i hX hR (w_X9_restore  h) lk_L_388 (rc2_of (ci := 10) rfl rfl) dL_law_3484 rfl rfl (Nat.le_of_ble_eq_true rfl) (by omega) (by omega) (by omega) ?_
  intro x4 I5 h
  refine q_istore hX dL_law_3487 (by decide) (ls' := [_, _, _, _, _, _, _, _, _, _]) rfl ?_
  refine q_aload_n hX dL_law_3489 rfl ?_
  refine q_V_ip hX hR (w_X9_thrown  h) lk_L_166 (rc2_of (ci := 10) rfl rfl) dL_law_3490 rfl rfl (Nat.le_of_ble_eq_true rfl) (by omega) (by omega) (by omega) ?_
  intro x6 h
  refine q_iload hX dL_law_3493 rfl ?_
  refine q_icmp_eq hX dL_law_3495 (tgt := 3500) (by decide) (fun q7 => ?_) (fun q7 => ?_)
  · replace h := ite_t q7 h
    refine q_iload hX dL_law_3500 rfl ?_
    refine q_if_ne hX dL_law_3502 (tgt := 3517) (by decide) (fun q8 => ?_) (fun q8 => ?_)
    · replace h := ite_f q8 h
      refine q_goto hX dL_law_3517 (tgt := 3520) (by decide) ?_
      exact q_dr (w_L_law_b3520 hf hX hR hN hS hE  (r28 := r28) (s28 := s28) hx28  (by omega) (by omega) _ _ _  h) ⟨Or.inl rfl, Or.inl rfl, Or.inl rfl, Or.inl rfl, Or.inl rfl, Or.inl rfl, Or.inr rfl, Or.inr rfl, Or.inl rfl, Or.inl rfl, trivial⟩
    · replace h := ite_t q8 h
      refine q_aload_n hX dL_law_3505 rfl ?_
      refine q_iconst hX dL_law_3506 (v := (nI 0)) (by decide) ?_
      refine q_lald hX dL_law_3507 ?_
      refine q_iload hX dL_law_3508 rfl ?_
      refine q_i2l hX dL_law_3510 rfl ?_
      refine q_lcmp hX dL_law_3511 ?_
      refine q_if_eq hX dL_law_3512 (tgt := 3517) (by decide) (fun q9 => ?_) (fun q9 => ?_)
      · replace h := ite_t q9 h
        refine q_goto hX dL_law_3517 (tgt := 3520) (by decide) ?_
        exact q_dr (w_L_law_b3520 hf hX hR hN hS hE  (r28 := r28) (s28 := s28) hx28  (by omega) (by omega) _ _ _  h) ⟨Or.inl rfl, Or.inl rfl, Or.inl rfl, Or.inl rfl, Or.inl rfl, Or.inl rfl, Or.inr rfl, Or.inr rfl, Or.inl rfl, Or.inl rfl, trivial⟩
      · replace h := ite_f q9 h
        refine q_iconst hX dL_law_3515 (v := (nI 0)) (by decide) ?_
        exact hE dL_law_3516 (by omega) (by omega) h
  · replace h := ite_f q7 h
    refine q_iconst hX dL_law_3498 (v := (nI 0)) (by decide) ?_
    exact hE dL_law_3499 (by omega) (by omega) h
set_option maxRecDepth 100000 in
set_option maxHeartbeats 4000000 in
theorem w_L_law_b28 {X : XT} {D : DT} {l : Launch} {xs : Nat → Int32} {nn : Nat} {K : Int32 → IT → LT → Prop} (hf : l.stackTraces = false) (hX : OK X D cL_law "TeaHouseLaw" 10) (hR : Room2 X l D 17 603072 7223402) (hN : NCX X) (hS : ScrAt X D nn xs) (hE : EndAt X D K 603072 7223402)  : ∀ (n : Nat), ∀ {c w : Nat}, c + (n * 30 + 0) ≤ 603072 → w + (n * 9600 + 0) ≤ 7223402 → ∀ (v5 : Int32) (I : IT) (L : LT), f_L_law_b28 xs nn K n v5 I L → J2 X D 10 c w I L 28 [.ref 1000300, .ref 0, .ref 190, .ref 195, .ref 196, .int v5, .retAddr 0, .retAddr 0, .retAddr 0, .retAddr 0] [] := by
  intro n
  induction n with
  | zero => intro c w hc hw v5 I L h; exact False.elim h
  | succ n ih =>
    intro c w hc hw v5 I L h
    rw [f_L_law_b28] at h
    refine q_iload hX dL_law_28 rfl ?_
    refine q_aload_n hX dL_law_30 rfl ?_
    refine q_slen hX hS dL_law_31 ?_
    refine q_iconst hX dL_law_32 (v := (nI 5)) (by decide) ?_
    refine q_isub hX dL_law_33 ?_
    refine q_icmp_gt hX dL_law_34 (tgt := 3526) (by decide) (fun q1 => ?_) (fun q1 => ?_)
    · replace h := ite_t q1 h
      refine q_iconst hX dL_law_3526 (v := (nI 1)) (by decide) ?_
      exact hE dL_law_3527 (by omega) (by omega) h
    · replace h := ite_f q1 h
      refine q_aload_n hX dL_law_37 rfl ?_
      refine q_iload hX dL_law_38 rfl ?_
      obtain ⟨z2, h⟩ := h
      refine q_sld hX hS dL_law_40 z2 ?_
      refine q_bipush hX dL_law_41 (v := (nI 63)) (by decide) ?_
      refine q_iand hX dL_law_43 ?_
      refine q_cas (k := (nI 0)) (fun q3 => ?_) (fun q3 => ?_)
      · replace h := ite_t q3 h
        refine q_tableInE hX dL_law_44 q3 (by decide +kernel) (by decide +kernel) (off := 272) (by decide +kernel) (tgt := 316) (by decide) ?_
        exact q_dr (w_L_law_b316 hf hX hR hN hS hE  (r28 := (n * 30 + 0)) (s28 := (n * 9600 + 0)) (fun {_ _} hc_ hw_ _ _ _ h => ih (by omega) (by omega) _ _ _  h)  (by omega) (by omega) _ _ _  h) ⟨Or.inl rfl, Or.inl rfl, Or.inl rfl, Or.inl rfl, Or.inl rfl, Or.inl rfl, Or.inl rfl, Or.inl rfl, Or.inl rfl, Or.inl rfl, trivial⟩
      replace h := ite_f q3 h
      refine q_cas (k := (nI 1)) (fun q4 => ?_) (fun q4 => ?_)
      · replace h := ite_t q4 h
        refine q_tableInE hX dL_law_44 q4 (by decide +kernel) (by decide +kernel) (off := 328) (by decide +kernel) (tgt := 372) (by decide) ?_
        exact q_dr (w_L_law_b372 hf hX hR hN hS hE  (r28 := (n * 30 + 0)) (s28 := (n * 9600 + 0)) (fun {_ _} hc_ hw_ _ _ _ h => ih (by omega) (by omega) _ _ _  h)  (by omega) (by omega) _ _ _  h) ⟨Or.inl rfl, Or.inl rfl, Or.inl rfl, Or.inl rfl, Or.inl rfl, Or.inl rfl, Or.inl rfl, Or.inl rfl, Or.inl rfl, Or.inl rfl, trivial⟩
      replace h := ite_f q4 h
      refine q_cas (k := (nI 2)) (fun q5 => ?_) (fun q5 => ?_)
      · replace h := ite_t q5 h
        refine q_tableInE hX dL_law_44 q5 (by decide +kernel) (by decide +kernel) (off := 418) (by decide +kernel) (tgt := 462) (by decide) ?_
        exact q_dr (w_L_law_b462 hf hX hR hN hS hE  (r28 := (n * 30 + 0)) (s28 := (n * 9600 + 0)) (fun {_ _} hc_ hw_ _ _ _ h => ih (by omega) (by omega) _ _ _  h)  (by omega) (by omega) _ _ _  h) ⟨Or.inl rfl, Or.inl rfl, Or.inl rfl, Or.inl rfl, Or.inl rfl, Or.inl rfl, Or.inl rfl, Or.inl rfl, Or.inl rfl, Or.inl rfl, trivial⟩
      replace h := ite_f q5 h
      refine q_cas (k := (nI 3)) (fun q6 => ?_) (fun q6 => ?_)
      · replace h := ite_t q6 h
        refine q_tableInE hX dL_law_44 q6 (by decide +kernel) (by decide +kernel) (off := 486) (by decide +kernel) (tgt := 530) (by decide) ?_
        exact q_dr (w_L_law_b530 hf hX hR hN hS hE  (r28 := (n * 30 + 0)) (s28 := (n * 9600 + 0)) (fun {_ _} hc_ hw_ _ _ _ h => ih (by omega) (by omega) _ _ _  h)  (by omega) (by omega) _ _ _  h) ⟨Or.inl rfl, Or.inl rfl, Or.inl rfl, Or.inl rfl, Or.inl rfl, Or.inl rfl, Or.inl rfl, Or.inl rfl, Or.inl rfl, Or.inl rfl, trivial⟩
      replace h := ite_f q6 h
      refine q_cas (k := (nI 4)) (fun q7 => ?_) (fun q7 => ?_)
      · replace h := ite_t q7 h
        refine q_tableInE hX dL_law_44 q7 (by decide +kernel) (by decide +kernel) (off := 578) (by decide +kernel) (tgt := 622) (by decide) ?_
        exact q_dr (w_L_law_b622 hf hX hR hN hS hE  (r28 := (n * 30 + 0)) (s28 := (n * 9600 + 0)) (fun {_ _} hc_ hw_ _ _ _ h => ih (by omega) (by omega) _ _ _  h)  (by omega) (by omega) _ _ _  h) ⟨Or.inl rfl, Or.inl rfl, Or.inl rfl, Or.inl rfl, Or.inl rfl, Or.inl rfl, Or.inl rfl, Or.inl rfl, Or.inl rfl, Or.inl rfl, trivial⟩
      replace h := ite_f q7 h
      refine q_cas (k := (nI 5)) (fun q8 => ?_) (fun q8 => ?_)
      · replace h := ite_t q8 h
        refine q_tableInE hX dL_law_44 q8 (by decide +kernel) (by decide +kernel) (off := 634) (by decide +kernel) (tgt := 678) (by decide) ?_
        exact q_dr (w_L_law_b678 hf hX hR hN hS hE  (r28 := (n * 30 + 0)) (s28 := (n * 9600 + 0)) (fun {_ _} hc_ hw_ _ _ _ h => ih (by omega) (by omega) _ _ _  h)  (by omega) (by omega) _ _ _  h) ⟨Or.inl rfl, Or.inl rfl, Or.inl rfl, Or.inl rfl, Or.inl rfl, Or.inl rfl, Or.inl rfl, Or.inl rfl, Or.inl rfl, Or.inl rfl, trivial⟩
      replace h := ite_f q8 h
      refine q_cas (k := (nI 6)) (fun q9 => ?_) (fun q9 => ?_)
      · replace h := ite_t q9 h
        refine q_tableInE hX dL_law_44 q9 (by decide +kernel) (by decide +kernel) (off := 678) (by decide +kernel) (tgt := 722) (by decide) ?_
        exact q_dr (w_L_law_b722 hf hX hR hN hS hE  (r28 := (n * 30 + 0)) (s28 := (n * 9600 + 0)) (fun {_ _} hc_ hw_ _ _ _ h => ih (by omega) (by omega) _ _ _  h)  (by omega) (by omega) _ _ _  h) ⟨Or.inl rfl, Or.inl rfl, Or.inl rfl, Or.inl rfl, Or.inl rfl, Or.inl rfl, Or.inl rfl, Or.inl rfl, Or.inl rfl, Or.inl rfl, trivial⟩
      replace h := ite_f q9 h
      refine q_cas (k := (nI 7)) (fun q10 => ?_) (fun q10 => ?_)
      · replace h := ite_t q10 h
        refine q_tableInE hX dL_law_44 q10 (by decide +kernel) (by decide +kernel) (off := 734) (by decide +kernel) (tgt := 778) (by decide) ?_
        exact q_dr (w_L_law_b778 hf hX hR hN hS hE  (r28 := (n * 30 + 0)) (s28 := (n * 9600 + 0)) (fun {_ _} hc_ hw_ _ _ _ h => ih (by omega) (by omega) _ _ _  h)  (by omega) (by omega) _ _ _  h) ⟨Or.inl rfl, Or.inl rfl, Or.inl rfl, Or.inl rfl, Or.inl rfl, Or.inl rfl, Or.inl rfl, Or.inl rfl, Or.inl rfl, Or.inl rfl, trivial⟩
      replace h := ite_f q10 h
      refine q_cas (k := (nI 8)) (fun q11 => ?_) (fun q11 => ?_)
      · replace h := ite_t q11 h
        refine q_tableInE hX dL_law_44 q11 (by decide +kernel) (by decide +kernel) (off := 812) (by decide +kernel) (tgt := 856) (by decide) ?_
        exact q_dr (w_L_law_b856 hf hX hR hN hS hE  (r28 := (n * 30 + 0)) (s28 := (n * 9600 + 0)) (fun {_ _} hc_ hw_ _ _ _ h => ih (by omega) (by omega) _ _ _  h)  (by omega) (by omega) _ _ _  h) ⟨Or.inl rfl, Or.inl rfl, Or.inl rfl, Or.inl rfl, Or.inl rfl, Or.inl rfl, Or.inl rfl, Or.inl rfl, Or.inl rfl, Or.inl rfl, trivial⟩
      replace h := ite_f q11 h
      refine q_cas (k := (nI 9)) (fun q12 => ?_) (fun q12 => ?_)
      · replace h := ite_t q12 h
        refine q_tableInE hX dL_law_44 q12 (by decide +kernel) (by decide +kernel) (off := 890) (by decide +kernel) (tgt := 934) (by decide) ?_
        exact q_dr (w_L_law_b934 hf hX hR hN hS hE  (r28 := (n * 30 + 0)) (s28 := (n * 9600 + 0)) (fun {_ _} hc_ hw_ _ _ _ h => ih (by omega) (by omega) _ _ _  h)  (by omega) (by omega) _ _ _  h) ⟨Or.inl rfl, Or.inl rfl, Or.inl rfl, Or.inl rfl, Or.inl rfl, Or.inl rfl, Or.inl rfl, Or.inl rfl, Or.inl rfl, Or.inl rfl, trivial⟩
      replace h := ite_f q12 h
      refine q_cas (k := (nI 10)) (fun q13 => ?_) (fun q13 => ?_)
      · replace h := ite_t q13 h
        refine q_tableInE hX dL_law_44 q13 (by decide +kernel) (by decide +kernel) (off := 968) (by decide +kernel) (tgt := 1012) (by decide) ?_
        exact q_dr (w_L_law_b1012 hf hX hR hN hS hE  (r28 := (n * 30 + 0)) (s28 := (n * 9600 + 0)) (fun {_ _} hc_ hw_ _ _ _ h => ih (by omega) (by omega) _ _ _  h)  (by omega) (by omega) _ _ _  h) ⟨Or.inl rfl, Or.inl rfl, Or.inl rfl, Or.inl rfl, Or.inl rfl, Or.inl rfl, Or.inl rfl, Or.inl rfl, Or.inl rfl, Or.inl rfl, trivial⟩
      replace h := ite_f q13 h
      refine q_cas (k := (nI 11)) (fun q14 => ?_) (fun q14 => ?_)
      · replace h := ite_t q14 h
        refine q_tableInE hX dL_law_44 q14 (by decide +kernel) (by decide +kernel) (off := 1009) (by decide +kernel) (tgt := 1053) (by decide) ?_
        exact q_dr (w_L_law_b1053 hf hX hR hN hS hE  (r28 := (n * 30 + 0)) (s28 := (n * 9600 + 0)) (fun {_ _} hc_ hw_ _ _ _ h => ih (by omega) (by omega) _ _ _  h)  (by omega) (by omega) _ _ _  h) ⟨Or.inl rfl, Or.inl rfl, Or.inl rfl, Or.inl rfl, Or.inl rfl, Or.inl rfl, Or.inl rfl, Or.inl rfl, Or.inl rfl, Or.inl rfl, trivial⟩
      replace h := ite_f q14 h
      refine q_cas (k := (nI 12)) (fun q15 => ?_) (fun q15 => ?_)
      · replace h := ite_t q15 h
        refine q_tableInE hX dL_law_44 q15 (by decide +kernel) (by decide +kernel) (off := 1065) (by decide +kernel) (tgt := 1109) (by decide) ?_
        exact q_dr (w_L_law_b1109 hf hX hR hN hS hE  (r28 := (n * 30 + 0)) (s28 := (n * 9600 + 0)) (fun {_ _} hc_ hw_ _ _ _ h => ih (by omega) (by omega) _ _ _  h)  (by omega) (by omega) _ _ _  h) ⟨Or.inl rfl, Or.inl rfl, Or.inl rfl, Or.inl rfl, Or.inl rfl, Or.inl rfl, Or.inl rfl, Or.inl rfl, Or.inl rfl, Or.inl rfl, trivial⟩
      replace h := ite_f q15 h
      refine q_cas (k := (nI 13)) (fun q16 => ?_) (fun q16 => ?_)
      · replace h := ite_t q16 h
        refine q_tableInE hX dL_law_44 q16 (by decide +kernel) (by decide +kernel) (off := 1131) (by decide +kernel) (tgt := 1175) (by decide) ?_
        exact q_dr (w_L_law_b1175 hf hX hR hN hS hE  (r28 := (n * 30 + 0)) (s28 := (n * 9600 + 0)) (fun {_ _} hc_ hw_ _ _ _ h => ih (by omega) (by omega) _ _ _  h)  (by omega) (by omega) _ _ _  h) ⟨Or.inl rfl, Or.inl rfl, Or.inl rfl, Or.inl rfl, Or.inl rfl, Or.inl rfl, Or.inl rfl, Or.inl rfl, Or.inl rfl, Or.inl rfl, trivial⟩
      replace h := ite_f q16 h
      refine q_cas (k := (nI 14)) (fun q17 => ?_) (fun q17 => ?_)
      · replace h := ite_t q17 h
        refine q_tableInE hX dL_law_44 q17 (by decide +kernel) (by decide +kernel) (off := 1144) (by decide +kernel) (tgt := 1188) (by decide) ?_
        exact q_dr (w_L_law_b1188 hf hX hR hN hS hE  (r28 := (n * 30 + 0)) (s28 := (n * 9600 + 0)) (fun {_ _} hc_ hw_ _ _ _ h => ih (by omega) (by omega) _ _ _  h)  (by omega) (by omega) _ _ _  h) ⟨Or.inl rfl, Or.inl rfl, Or.inl rfl, Or.inl rfl, Or.inl rfl, Or.inl rfl, Or.inl rfl, Or.inl rfl, Or.inl rfl, Or.inl rfl, trivial⟩
      replace h := ite_f q17 h
      refine q_cas (k := (nI 15)) (fun q18 => ?_) (fun q18 => ?_)
      · replace h := ite_t q18 h
        refine q_tableInE hX dL_law_44 q18 (by decide +kernel) (by decide +kernel) (off := 1222) (by decide +kernel) (tgt := 1266) (by decide) ?_
        exact q_dr (w_L_law_b1266 hf hX hR hN hS hE  (r28 := (n * 30 + 0)) (s28 := (n * 9600 + 0)) (fun {_ _} hc_ hw_ _ _ _ h => ih (by omega) (by omega) _ _ _  h)  (by omega) (by omega) _ _ _  h) ⟨Or.inl rfl, Or.inl rfl, Or.inl rfl, Or.inl rfl, Or.inl rfl, Or.inl rfl, Or.inl rfl, Or.inl rfl, Or.inl rfl, Or.inl rfl, trivial⟩
      replace h := ite_f q18 h
      refine q_cas (k := (nI 16)) (fun q19 => ?_) (fun q19 => ?_)
      · replace h := ite_t q19 h
        refine q_tableInE hX dL_law_44 q19 (by decide +kernel) (by decide +kernel) (off := 1300) (by decide +kernel) (tgt := 1344) (by decide) ?_
        exact q_dr (w_L_law_b1344 hf hX hR hN hS hE  (r28 := (n * 30 + 0)) (s28 := (n * 9600 + 0)) (fun {_ _} hc_ hw_ _ _ _ h => ih (by omega) (by omega) _ _ _  h)  (by omega) (by omega) _ _ _  h) ⟨Or.inl rfl, Or.inl rfl, Or.inl rfl, Or.inl rfl, Or.inl rfl, Or.inl rfl, Or.inl rfl, Or.inl rfl, Or.inl rfl, Or.inl rfl, trivial⟩
      replace h := ite_f q19 h
      refine q_cas (k := (nI 17)) (fun q20 => ?_) (fun q20 => ?_)
      · replace h := ite_t q20 h
        refine q_tableInE hX dL_law_44 q20 (by decide +kernel) (by decide +kernel) (off := 1378) (by decide +kernel) (tgt := 1422) (by decide) ?_
        exact q_dr (w_L_law_b1422 hf hX hR hN hS hE  (r28 := (n * 30 + 0)) (s28 := (n * 9600 + 0)) (fun {_ _} hc_ hw_ _ _ _ h => ih (by omega) (by omega) _ _ _  h)  (by omega) (by omega) _ _ _  h) ⟨Or.inl rfl, Or.inl rfl, Or.inl rfl, Or.inl rfl, Or.inl rfl, Or.inl rfl, Or.inl rfl, Or.inl rfl, Or.inl rfl, Or.inl rfl, trivial⟩
      replace h := ite_f q20 h
      refine q_cas (k := (nI 18)) (fun q21 => ?_) (fun q21 => ?_)
      · replace h := ite_t q21 h
        refine q_tableInE hX dL_law_44 q21 (by decide +kernel) (by decide +kernel) (off := 1434) (by decide +kernel) (tgt := 1478) (by decide) ?_
        exact q_dr (w_L_law_b1478 hf hX hR hN hS hE  (r28 := (n * 30 + 0)) (s28 := (n * 9600 + 0)) (fun {_ _} hc_ hw_ _ _ _ h => ih (by omega) (by omega) _ _ _  h)  (by omega) (by omega) _ _ _  h) ⟨Or.inl rfl, Or.inl rfl, Or.inl rfl, Or.inl rfl, Or.inl rfl, Or.inl rfl, Or.inl rfl, Or.inl rfl, Or.inl rfl, Or.inl rfl, trivial⟩
      replace h := ite_f q21 h
      refine q_cas (k := (nI 19)) (fun q22 => ?_) (fun q22 => ?_)
      · replace h := ite_t q22 h
        refine q_tableInE hX dL_law_44 q22 (by decide +kernel) (by decide +kernel) (off := 1490) (by decide +kernel) (tgt := 1534) (by decide) ?_
        exact q_dr (w_L_law_b1534 hf hX hR hN hS hE  (r28 := (n * 30 + 0)) (s28 := (n * 9600 + 0)) (fun {_ _} hc_ hw_ _ _ _ h => ih (by omega) (by omega) _ _ _  h)  (by omega) (by omega) _ _ _  h) ⟨Or.inl rfl, Or.inl rfl, Or.inl rfl, Or.inl rfl, Or.inl rfl, Or.inl rfl, Or.inl rfl, Or.inl rfl, Or.inl rfl, Or.inl rfl, trivial⟩
      replace h := ite_f q22 h
      refine q_cas (k := (nI 20)) (fun q23 => ?_) (fun q23 => ?_)
      · replace h := ite_t q23 h
        refine q_tableInE hX dL_law_44 q23 (by decide +kernel) (by decide +kernel) (off := 1553) (by decide +kernel) (tgt := 1597) (by decide) ?_
        exact q_dr (w_L_law_b1597 hf hX hR hN hS hE  (r28 := (n * 30 + 0)) (s28 := (n * 9600 + 0)) (fun {_ _} hc_ hw_ _ _ _ h => ih (by omega) (by omega) _ _ _  h)  (by omega) (by omega) _ _ _  h) ⟨Or.inl rfl, Or.inl rfl, Or.inl rfl, Or.inl rfl, Or.inl rfl, Or.inl rfl, Or.inl rfl, Or.inl rfl, Or.inl rfl, Or.inl rfl, trivial⟩
      replace h := ite_f q23 h
      refine q_cas (k := (nI 21)) (fun q24 => ?_) (fun q24 => ?_)
      · replace h := ite_t q24 h
        refine q_tableInE hX dL_law_44 q24 (by decide +kernel) (by decide +kernel) (off := 1609) (by decide +kernel) (tgt := 1653) (by decide) ?_
        exact q_dr (w_L_law_b1653 hf hX hR hN hS hE  (r28 := (n * 30 + 0)) (s28 := (n * 9600 + 0)) (fun {_ _} hc_ hw_ _ _ _ h => ih (by omega) (by omega) _ _ _  h)  (by omega) (by omega) _ _ _  h) ⟨Or.inl rfl, Or.inl rfl, Or.inl rfl, Or.inl rfl, Or.inl rfl, Or.inl rfl, Or.inl rfl, Or.inl rfl, Or.inl rfl, Or.inl rfl, trivial⟩
      replace h := ite_f q24 h
      refine q_cas (k := (nI 22)) (fun q25 => ?_) (fun q25 => ?_)
      · replace h := ite_t q25 h
        refine q_tableInE hX dL_law_44 q25 (by decide +kernel) (by decide +kernel) (off := 1665) (by decide +kernel) (tgt := 1709) (by decide) ?_
        exact q_dr (w_L_law_b1709 hf hX hR hN hS hE  (r28 := (n * 30 + 0)) (s28 := (n * 9600 + 0)) (fun {_ _} hc_ hw_ _ _ _ h => ih (by omega) (by omega) _ _ _  h)  (by omega) (by omega) _ _ _  h) ⟨Or.inl rfl, Or.inl rfl, Or.inl rfl, Or.inl rfl, Or.inl rfl, Or.inl rfl, Or.inl rfl, Or.inl rfl, Or.inl rfl, Or.inl rfl, trivial⟩
      replace h := ite_f q25 h
      refine q_cas (k := (nI 23)) (fun q26 => ?_) (fun q26 => ?_)
      · replace h := ite_t q26 h
        refine q_tableInE hX dL_law_44 q26 (by decide +kernel) (by decide +kernel) (off := 1721) (by decide +kernel) (tgt := 1765) (by decide) ?_
        exact q_dr (w_L_law_b1765 hf hX hR hN hS hE  (r28 := (n * 30 + 0)) (s28 := (n * 9600 + 0)) (fun {_ _} hc_ hw_ _ _ _ h => ih (by omega) (by omega) _ _ _  h)  (by omega) (by omega) _ _ _  h) ⟨Or.inl rfl, Or.inl rfl, Or.inl rfl, Or.inl rfl, Or.inl rfl, Or.inl rfl, Or.inl rfl, Or.inl rfl, Or.inl rfl, Or.inl rfl, trivial⟩
      replace h := ite_f q26 h
      refine q_cas (k := (nI 24)) (fun q27 => ?_) (fun q27 => ?_)
      · replace h := ite_t q27 h
        refine q_tableInE hX dL_law_44 q27 (by decide +kernel) (by decide +kernel) (off := 1734) (by decide +kernel) (tgt := 1778) (by decide) ?_
        exact q_dr (w_L_law_b1778 hf hX hR hN hS hE  (r28 := (n * 30 + 0)) (s28 := (n * 9600 + 0)) (fun {_ _} hc_ hw_ _ _ _ h => ih (by omega) (by omega) _ _ _  h)  (by omega) (by omega) _ _ _  h) ⟨Or.inl rfl, Or.inl rfl, Or.inl rfl, Or.inl rfl, Or.inl rfl, Or.inl rfl, Or.inl rfl, Or.inl rfl, Or.inl rfl, Or.inl rfl, trivial⟩
      replace h := ite_f q27 h
      refine q_cas (k := (nI 25)) (fun q28 => ?_) (fun q28 => ?_)
      · replace h := ite_t q28 h
        refine q_tableInE hX dL_law_44 q28 (by decide +kernel) (by decide +kernel) (off := 1790) (by decide +kernel) (tgt := 1834) (by decide) ?_
        exact q_dr (w_L_law_b1834 hf hX hR hN hS hE  (r28 := (n * 30 + 0)) (s28 := (n * 9600 + 0)) (fun {_ _} hc_ hw_ _ _ _ h => ih (by omega) (by omega) _ _ _  h)  (by omega) (by omega) _ _ _  h) ⟨Or.inl rfl, Or.inl rfl, Or.inl rfl, Or.inl rfl, Or.inl rfl, Or.inl rfl, Or.inl rfl, Or.inl rfl, Or.inl rfl, Or.inl rfl, trivial⟩
      replace h := ite_f q28 h
      refine q_cas (k := (nI 26)) (fun q29 => ?_) (fun q29 => ?_)
      · replace h := ite_t q29 h
        refine q_tableInE hX dL_law_44 q29 (by decide +kernel) (by decide +kernel) (off := 1846) (by decide +kernel) (tgt := 1890) (by decide) ?_
        exact q_dr (w_L_law_b1890 hf hX hR hN hS hE  (r28 := (n * 30 + 0)) (s28 := (n * 9600 + 0)) (fun {_ _} hc_ hw_ _ _ _ h => ih (by omega) (by omega) _ _ _  h)  (by omega) (by omega) _ _ _  h) ⟨Or.inl rfl, Or.inl rfl, Or.inl rfl, Or.inl rfl, Or.inl rfl, Or.inl rfl, Or.inl rfl, Or.inl rfl, Or.inl rfl, Or.inl rfl, trivial⟩
      replace h := ite_f q29 h
      refine q_cas (k := (nI 27)) (fun q30 => ?_) (fun q30 => ?_)
      · replace h := ite_t q30 h
        refine q_tableInE hX dL_law_44 q30 (by decide +kernel) (by decide +kernel) (off := 1902) (by decide +kernel) (tgt := 1946) (by decide) ?_
        exact q_dr (w_L_law_b1946 hf hX hR hN hS hE  (r28 := (n * 30 + 0)) (s28 := (n * 9600 + 0)) (fun {_ _} hc_ hw_ _ _ _ h => ih (by omega) (by omega) _ _ _  h)  (by omega) (by omega) _ _ _  h) ⟨Or.inl rfl, Or.inl rfl, Or.inl rfl, Or.inl rfl, Or.inl rfl, Or.inl rfl, Or.inl rfl, Or.inl rfl, Or.inl rfl, Or.inl rfl, trivial⟩
      replace h := ite_f q30 h
      refine q_cas (k := (nI 28)) (fun q31 => ?_) (fun q31 => ?_)
      · replace h := ite_t q31 h
        refine q_tableInE hX dL_law_44 q31 (by decide +kernel) (by decide +kernel) (off := 1980) (by decide +kernel) (tgt := 2024) (by decide) ?_
        exact q_dr (w_L_law_b2024 hf hX hR hN hS hE  (r28 := (n * 30 + 0)) (s28 := (n * 9600 + 0)) (fun {_ _} hc_ hw_ _ _ _ h => ih (by omega) (by omega) _ _ _  h)  (by omega) (by omega) _ _ _  h) ⟨Or.inl rfl, Or.inl rfl, Or.inl rfl, Or.inl rfl, Or.inl rfl, Or.inl rfl, Or.inl rfl, Or.inl rfl, Or.inl rfl, Or.inl rfl, trivial⟩
      replace h := ite_f q31 h
      refine q_cas (k := (nI 29)) (fun q32 => ?_) (fun q32 => ?_)
      · replace h := ite_t q32 h
        refine q_tableInE hX dL_law_44 q32 (by decide +kernel) (by decide +kernel) (off := 2036) (by decide +kernel) (tgt := 2080) (by decide) ?_
        exact q_dr (w_L_law_b2080 hf hX hR hN hS hE  (r28 := (n * 30 + 0)) (s28 := (n * 9600 + 0)) (fun {_ _} hc_ hw_ _ _ _ h => ih (by omega) (by omega) _ _ _  h)  (by omega) (by omega) _ _ _  h) ⟨Or.inl rfl, Or.inl rfl, Or.inl rfl, Or.inl rfl, Or.inl rfl, Or.inl rfl, Or.inl rfl, Or.inl rfl, Or.inl rfl, Or.inl rfl, trivial⟩
      replace h := ite_f q32 h
      refine q_cas (k := (nI 30)) (fun q33 => ?_) (fun q33 => ?_)
      · replace h := ite_t q33 h
        refine q_tableInE hX dL_law_44 q33 (by decide +kernel) (by decide +kernel) (off := 2092) (by decide +kernel) (tgt := 2136) (by decide) ?_
        exact q_dr (w_L_law_b2136 hf hX hR hN hS hE  (r28 := (n * 30 + 0)) (s28 := (n * 9600 + 0)) (fun {_ _} hc_ hw_ _ _ _ h => ih (by omega) (by omega) _ _ _  h)  (by omega) (by omega) _ _ _  h) ⟨Or.inl rfl, Or.inl rfl, Or.inl rfl, Or.inl rfl, Or.inl rfl, Or.inl rfl, Or.inl rfl, Or.inl rfl, Or.inl rfl, Or.inl rfl, trivial⟩
      replace h := ite_f q33 h
      refine q_cas (k := (nI 31)) (fun q34 => ?_) (fun q34 => ?_)
      · replace h := ite_t q34 h
        refine q_tableInE hX dL_law_44 q34 (by decide +kernel) (by decide +kernel) (off := 2105) (by decide +kernel) (tgt := 2149) (by decide) ?_
        exact q_dr (w_L_law_b2149 hf hX hR hN hS hE  (r28 := (n * 30 + 0)) (s28 := (n * 9600 + 0)) (fun {_ _} hc_ hw_ _ _ _ h => ih (by omega) (by omega) _ _ _  h)  (by omega) (by omega) _ _ _  h) ⟨Or.inl rfl, Or.inl rfl, Or.inl rfl, Or.inl rfl, Or.inl rfl, Or.inl rfl, Or.inl rfl, Or.inl rfl, Or.inl rfl, Or.inl rfl, trivial⟩
      replace h := ite_f q34 h
      refine q_cas (k := (nI 32)) (fun q35 => ?_) (fun q35 => ?_)
      · replace h := ite_t q35 h
        refine q_tableInE hX dL_law_44 q35 (by decide +kernel) (by decide +kernel) (off := 2118) (by decide +kernel) (tgt := 2162) (by decide) ?_
        exact q_dr (w_L_law_b2162 hf hX hR hN hS hE  (r28 := (n * 30 + 0)) (s28 := (n * 9600 + 0)) (fun {_ _} hc_ hw_ _ _ _ h => ih (by omega) (by omega) _ _ _  h)  (by omega) (by omega) _ _ _  h) ⟨Or.inl rfl, Or.inl rfl, Or.inl rfl, Or.inl rfl, Or.inl rfl, Or.inl rfl, Or.inl rfl, Or.inl rfl, Or.inl rfl, Or.inl rfl, trivial⟩
      replace h := ite_f q35 h
      refine q_cas (k := (nI 33)) (fun q36 => ?_) (fun q36 => ?_)
      · replace h := ite_t q36 h
        refine q_tableInE hX dL_law_44 q36 (by decide +kernel) (by decide +kernel) (off := 2161) (by decide +kernel) (tgt := 2205) (by decide) ?_
        exact q_dr (w_L_law_b2205 hf hX hR hN hS hE  (r28 := (n * 30 + 0)) (s28 := (n * 9600 + 0)) (fun {_ _} hc_ hw_ _ _ _ h => ih (by omega) (by omega) _ _ _  h)  (by omega) (by omega) _ _ _  h) ⟨Or.inl rfl, Or.inl rfl, Or.inl rfl, Or.inl rfl, Or.inl rfl, Or.inl rfl, Or.inl rfl, Or.inl rfl, Or.inl rfl, Or.inl rfl, trivial⟩
      replace h := ite_f q36 h
      refine q_cas (k := (nI 34)) (fun q37 => ?_) (fun q37 => ?_)
      · replace h := ite_t q37 h
        refine q_tableInE hX dL_law_44 q37 (by decide +kernel) (by decide +kernel) (off := 2204) (by decide +kernel) (tgt := 2248) (by decide) ?_
        exact q_dr (w_L_law_b2248 hf hX hR hN hS hE  (r28 := (n * 30 + 0)) (s28 := (n * 9600 + 0)) (fun {_ _} hc_ hw_ _ _ _ h => ih (by omega) (by omega) _ _ _  h)  (by omega) (by omega) _ _ _  h) ⟨Or.inl rfl, Or.inl rfl, Or.inl rfl, Or.inl rfl, Or.inl rfl, Or.inl rfl, Or.inl rfl, Or.inl rfl, Or.inl rfl, Or.inl rfl, trivial⟩
      replace h := ite_f q37 h
      refine q_cas (k := (nI 35)) (fun q38 => ?_) (fun q38 => ?_)
      · replace h := ite_t q38 h
        refine q_tableInE hX dL_law_44 q38 (by decide +kernel) (by decide +kernel) (off := 2247) (by decide +kernel) (tgt := 2291) (by decide) ?_
        exact q_dr (w_L_law_b2291 hf hX hR hN hS hE  (r28 := (n * 30 + 0)) (s28 := (n * 9600 + 0)) (fun {_ _} hc_ hw_ _ _ _ h => ih (by omega) (by omega) _ _ _  h)  (by omega) (by omega) _ _ _  h) ⟨Or.inl rfl, Or.inl rfl, Or.inl rfl, Or.inl rfl, Or.inl rfl, Or.inl rfl, Or.inl rfl, Or.inl rfl, Or.inl rfl, Or.inl rfl, trivial⟩
      replace h := ite_f q38 h
      refine q_cas (k := (nI 36)) (fun q39 => ?_) (fun q39 => ?_)
      · replace h := ite_t q39 h
        refine q_tableInE hX dL_law_44 q39 (by decide +kernel) (by decide +kernel) (off := 2290) (by decide +kernel) (tgt := 2334) (by decide) ?_
        exact q_dr (w_L_law_b2334 hf hX hR hN hS hE  (r28 := (n * 30 + 0)) (s28 := (n * 9600 + 0)) (fun {_ _} hc_ hw_ _ _ _ h => ih (by omega) (by omega) _ _ _  h)  (by omega) (by omega) _ _ _  h) ⟨Or.inl rfl, Or.inl rfl, Or.inl rfl, Or.inl rfl, Or.inl rfl, Or.inl rfl, Or.inl rfl, Or.inl rfl, Or.inl rfl, Or.inl rfl, trivial⟩
      replace h := ite_f q39 h
      refine q_cas (k := (nI 37)) (fun q40 => ?_) (fun q40 => ?_)
      · replace h := ite_t q40 h
        refine q_tableInE hX dL_law_44 q40 (by decide +kernel) (by decide +kernel) (off := 2333) (by decide +kernel) (tgt := 2377) (by decide) ?_
        exact q_dr (w_L_law_b2377 hf hX hR hN hS hE  (r28 := (n * 30 + 0)) (s28 := (n * 9600 + 0)) (fun {_ _} hc_ hw_ _ _ _ h => ih (by omega) (by omega) _ _ _  h)  (by omega) (by omega) _ _ _  h) ⟨Or.inl rfl, Or.inl rfl, Or.inl rfl, Or.inl rfl, Or.inl rfl, Or.inl rfl, Or.inl rfl, Or.inl rfl, Or.inl rfl, Or.inl rfl, trivial⟩
      replace h := ite_f q40 h
      refine q_cas (k := (nI 38)) (fun q41 => ?_) (fun q41 => ?_)
      · replace h := ite_t q41 h
        refine q_tableInE hX dL_law_44 q41 (by decide +kernel) (by decide +kernel) (off := 2376) (by decide +kernel) (tgt := 2420) (by decide) ?_
        exact q_dr (w_L_law_b2420 hf hX hR hN hS hE  (r28 := (n * 30 + 0)) (s28 := (n * 9600 + 0)) (fun {_ _} hc_ hw_ _ _ _ h => ih (by omega) (by omega) _ _ _  h)  (by omega) (by omega) _ _ _  h) ⟨Or.inl rfl, Or.inl rfl, Or.inl rfl, Or.inl rfl, Or.inl rfl, Or.inl rfl, Or.inl rfl, Or.inl rfl, Or.inl rfl, Or.inl rfl, trivial⟩
      replace h := ite_f q41 h
      refine q_cas (k := (nI 39)) (fun q42 => ?_) (fun q42 => ?_)
      · replace h := ite_t q42 h
        refine q_tableInE hX dL_law_44 q42 (by decide +kernel) (by decide +kernel) (off := 2419) (by decide +kernel) (tgt := 2463) (by decide) ?_
        exact q_dr (w_L_law_b2463 hf hX hR hN hS hE  (r28 := (n * 30 + 0)) (s28 := (n * 9600 + 0)) (fun {_ _} hc_ hw_ _ _ _ h => ih (by omega) (by omega) _ _ _  h)  (by omega) (by omega) _ _ _  h) ⟨Or.inl rfl, Or.inl rfl, Or.inl rfl, Or.inl rfl, Or.inl rfl, Or.inl rfl, Or.inl rfl, Or.inl rfl, Or.inl rfl, Or.inl rfl, trivial⟩
      replace h := ite_f q42 h
      refine q_cas (k := (nI 40)) (fun q43 => ?_) (fun q43 => ?_)
      · replace h := ite_t q43 h
        refine q_tableInE hX dL_law_44 q43 (by decide +kernel) (by decide +kernel) (off := 2432) (by decide +kernel) (tgt := 2476) (by decide) ?_
        exact q_dr (w_L_law_b2476 hf hX hR hN hS hE  (r28 := (n * 30 + 0)) (s28 := (n * 9600 + 0)) (fun {_ _} hc_ hw_ _ _ _ h => ih (by omega) (by omega) _ _ _  h)  (by omega) (by omega) _ _ _  h) ⟨Or.inl rfl, Or.inl rfl, Or.inl rfl, Or.inl rfl, Or.inl rfl, Or.inl rfl, Or.inl rfl, Or.inl rfl, Or.inl rfl, Or.inl rfl, trivial⟩
      replace h := ite_f q43 h
      refine q_cas (k := (nI 41)) (fun q44 => ?_) (fun q44 => ?_)
      · replace h := ite_t q44 h
        refine q_tableInE hX dL_law_44 q44 (by decide +kernel) (by decide +kernel) (off := 2510) (by decide +kernel) (tgt := 2554) (by decide) ?_
        exact q_dr (w_L_law_b2554 hf hX hR hN hS hE  (r28 := (n * 30 + 0)) (s28 := (n * 9600 + 0)) (fun {_ _} hc_ hw_ _ _ _ h => ih (by omega) (by omega) _ _ _  h)  (by omega) (by omega) _ _ _  h) ⟨Or.inl rfl, Or.inl rfl, Or.inl rfl, Or.inl rfl, Or.inl rfl, Or.inl rfl, Or.inl rfl, Or.inl rfl, Or.inl rfl, Or.inl rfl, trivial⟩
      replace h := ite_f q44 h
      refine q_cas (k := (nI 42)) (fun q45 => ?_) (fun q45 => ?_)
      · replace h := ite_t q45 h
        refine q_tableInE hX dL_law_44 q45 (by decide +kernel) (by decide +kernel) (off := 2566) (by decide +kernel) (tgt := 2610) (by decide) ?_
        exact q_dr (w_L_law_b2610 hf hX hR hN hS hE  (r28 := (n * 30 + 0)) (s28 := (n * 9600 + 0)) (fun {_ _} hc_ hw_ _ _ _ h => ih (by omega) (by omega) _ _ _  h)  (by omega) (by omega) _ _ _  h) ⟨Or.inl rfl, Or.inl rfl, Or.inl rfl, Or.inl rfl, Or.inl rfl, Or.inl rfl, Or.inl rfl, Or.inl rfl, Or.inl rfl, Or.inl rfl, trivial⟩
      replace h := ite_f q45 h
      refine q_cas (k := (nI 43)) (fun q46 => ?_) (fun q46 => ?_)
      · replace h := ite_t q46 h
        refine q_tableInE hX dL_law_44 q46 (by decide +kernel) (by decide +kernel) (off := 2644) (by decide +kernel) (tgt := 2688) (by decide) ?_
        exact q_dr (w_L_law_b2688 hf hX hR hN hS hE  (r28 := (n * 30 + 0)) (s28 := (n * 9600 + 0)) (fun {_ _} hc_ hw_ _ _ _ h => ih (by omega) (by omega) _ _ _  h)  (by omega) (by omega) _ _ _  h) ⟨Or.inl rfl, Or.inl rfl, Or.inl rfl, Or.inl rfl, Or.inl rfl, Or.inl rfl, Or.inl rfl, Or.inl rfl, Or.inl rfl, Or.inl rfl, trivial⟩
      replace h := ite_f q46 h
      refine q_cas (k := (nI 44)) (fun q47 => ?_) (fun q47 => ?_)
      · replace h := ite_t q47 h
        refine q_tableInE hX dL_law_44 q47 (by decide +kernel) (by decide +kernel) (off := 2722) (by decide +kernel) (tgt := 2766) (by decide) ?_
        exact q_dr (w_L_law_b2766 hf hX hR hN hS hE  (r28 := (n * 30 + 0)) (s28 := (n * 9600 + 0)) (fun {_ _} hc_ hw_ _ _ _ h => ih (by omega) (by omega) _ _ _  h)  (by omega) (by omega) _ _ _  h) ⟨Or.inl rfl, Or.inl rfl, Or.inl rfl, Or.inl rfl, Or.inl rfl, Or.inl rfl, Or.inl rfl, Or.inl rfl, Or.inl rfl, Or.inl rfl, trivial⟩
      replace h := ite_f q47 h
      refine q_cas (k := (nI 45)) (fun q48 => ?_) (fun q48 => ?_)
      · replace h := ite_t q48 h
        refine q_tableInE hX dL_law_44 q48 (by decide +kernel) (by decide +kernel) (off := 2765) (by decide +kernel) (tgt := 2809) (by decide) ?_
        exact q_dr (w_L_law_b2809 hf hX hR hN hS hE  (r28 := (n * 30 + 0)) (s28 := (n * 9600 + 0)) (fun {_ _} hc_ hw_ _ _ _ h => ih (by omega) (by omega) _ _ _  h)  (by omega) (by omega) _ _ _  h) ⟨Or.inl rfl, Or.inl rfl, Or.inl rfl, Or.inl rfl, Or.inl rfl, Or.inl rfl, Or.inl rfl, Or.inl rfl, Or.inl rfl, Or.inl rfl, trivial⟩
      replace h := ite_f q48 h
      refine q_cas (k := (nI 46)) (fun q49 => ?_) (fun q49 => ?_)
      · replace h := ite_t q49 h
        refine q_tableInE hX dL_law_44 q49 (by decide +kernel) (by decide +kernel) (off := 2808) (by decide +kernel) (tgt := 2852) (by decide) ?_
        exact q_dr (w_L_law_b2852 hf hX hR hN hS hE  (r28 := (n * 30 + 0)) (s28 := (n * 9600 + 0)) (fun {_ _} hc_ hw_ _ _ _ h => ih (by omega) (by omega) _ _ _  h)  (by omega) (by omega) _ _ _  h) ⟨Or.inl rfl, Or.inl rfl, Or.inl rfl, Or.inl rfl, Or.inl rfl, Or.inl rfl, Or.inl rfl, Or.inl rfl, Or.inl rfl, Or.inl rfl, trivial⟩
      replace h := ite_f q49 h
      refine q_cas (k := (nI 47)) (fun q50 => ?_) (fun q50 => ?_)
      · replace h := ite_t q50 h
        refine q_tableInE hX dL_law_44 q50 (by decide +kernel) (by decide +kernel) (off := 2821) (by decide +kernel) (tgt := 2865) (by decide) ?_
        exact q_dr (w_L_law_b2865 hf hX hR hN hS hE  (r28 := (n * 30 + 0)) (s28 := (n * 9600 + 0)) (fun {_ _} hc_ hw_ _ _ _ h => ih (by omega) (by omega) _ _ _  h)  (by omega) (by omega) _ _ _  h) ⟨Or.inl rfl, Or.inl rfl, Or.inl rfl, Or.inl rfl, Or.inl rfl, Or.inl rfl, Or.inl rfl, Or.inl rfl, Or.inl rfl, Or.inl rfl, trivial⟩
      replace h := ite_f q50 h
      refine q_cas (k := (nI 48)) (fun q51 => ?_) (fun q51 => ?_)
      · replace h := ite_t q51 h
        refine q_tableInE hX dL_law_44 q51 (by decide +kernel) (by decide +kernel) (off := 2834) (by decide +kernel) (tgt := 2878) (by decide) ?_
        exact q_dr (w_L_law_b2878 hf hX hR hN hS hE  (r28 := (n * 30 + 0)) (s28 := (n * 9600 + 0)) (fun {_ _} hc_ hw_ _ _ _ h => ih (by omega) (by omega) _ _ _  h)  (by omega) (by omega) _ _ _  h) ⟨Or.inl rfl, Or.inl rfl, Or.inl rfl, Or.inl rfl, Or.inl rfl, Or.inl rfl, Or.inl rfl, Or.inl rfl, Or.inl rfl, Or.inl rfl, trivial⟩
      replace h := ite_f q51 h
      refine q_cas (k := (nI 49)) (fun q52 => ?_) (fun q52 => ?_)
      · replace h := ite_t q52 h
        refine q_tableInE hX dL_law_44 q52 (by decide +kernel) (by decide +kernel) (off := 2847) (by decide +kernel) (tgt := 2891) (by decide) ?_
        exact q_dr (w_L_law_b2891 hf hX hR hN hS hE  (r28 := (n * 30 + 0)) (s28 := (n * 9600 + 0)) (fun {_ _} hc_ hw_ _ _ _ h => ih (by omega) (by omega) _ _ _  h)  (by omega) (by omega) _ _ _  h) ⟨Or.inl rfl, Or.inl rfl, Or.inl rfl, Or.inl rfl, Or.inl rfl, Or.inl rfl, Or.inl rfl, Or.inl rfl, Or.inl rfl, Or.inl rfl, trivial⟩
      replace h := ite_f q52 h
      refine q_cas (k := (nI 50)) (fun q53 => ?_) (fun q53 => ?_)
      · replace h := ite_t q53 h
        refine q_tableInE hX dL_law_44 q53 (by decide +kernel) (by decide +kernel) (off := 2912) (by decide +kernel) (tgt := 2956) (by decide) ?_
        exact q_dr (w_L_law_b2956 hf hX hR hN hS hE  (r28 := (n * 30 + 0)) (s28 := (n * 9600 + 0)) (fun {_ _} hc_ hw_ _ _ _ h => ih (by omega) (by omega) _ _ _  h)  (by omega) (by omega) _ _ _  h) ⟨Or.inl rfl, Or.inl rfl, Or.inl rfl, Or.inl rfl, Or.inl rfl, Or.inl rfl, Or.inl rfl, Or.inl rfl, Or.inl rfl, Or.inl rfl, trivial⟩
      replace h := ite_f q53 h
      refine q_cas (k := (nI 51)) (fun q54 => ?_) (fun q54 => ?_)
      · replace h := ite_t q54 h
        refine q_tableInE hX dL_law_44 q54 (by decide +kernel) (by decide +kernel) (off := 2978) (by decide +kernel) (tgt := 3022) (by decide) ?_
        exact q_dr (w_L_law_b3022 hf hX hR hN hS hE  (r28 := (n * 30 + 0)) (s28 := (n * 9600 + 0)) (fun {_ _} hc_ hw_ _ _ _ h => ih (by omega) (by omega) _ _ _  h)  (by omega) (by omega) _ _ _  h) ⟨Or.inl rfl, Or.inl rfl, Or.inl rfl, Or.inl rfl, Or.inl rfl, Or.inl rfl, Or.inl rfl, Or.inl rfl, Or.inl rfl, Or.inl rfl, trivial⟩
      replace h := ite_f q54 h
      refine q_cas (k := (nI 52)) (fun q55 => ?_) (fun q55 => ?_)
      · replace h := ite_t q55 h
        refine q_tableInE hX dL_law_44 q55 (by decide +kernel) (by decide +kernel) (off := 2991) (by decide +kernel) (tgt := 3035) (by decide) ?_
        exact q_dr (w_L_law_b3035 hf hX hR hN hS hE  (r28 := (n * 30 + 0)) (s28 := (n * 9600 + 0)) (fun {_ _} hc_ hw_ _ _ _ h => ih (by omega) (by omega) _ _ _  h)  (by omega) (by omega) _ _ _  h) ⟨Or.inl rfl, Or.inl rfl, Or.inl rfl, Or.inl rfl, Or.inl rfl, Or.inl rfl, Or.inl rfl, Or.inl rfl, Or.inl rfl, Or.inl rfl, trivial⟩
      replace h := ite_f q55 h
      refine q_cas (k := (nI 53)) (fun q56 => ?_) (fun q56 => ?_)
      · replace h := ite_t q56 h
        refine q_tableInE hX dL_law_44 q56 (by decide +kernel) (by decide +kernel) (off := 3047) (by decide +kernel) (tgt := 3091) (by decide) ?_
        exact q_dr (w_L_law_b3091 hf hX hR hN hS hE  (r28 := (n * 30 + 0)) (s28 := (n * 9600 + 0)) (fun {_ _} hc_ hw_ _ _ _ h => ih (by omega) (by omega) _ _ _  h)  (by omega) (by omega) _ _ _  h) ⟨Or.inl rfl, Or.inl rfl, Or.inl rfl, Or.inl rfl, Or.inl rfl, Or.inl rfl, Or.inl rfl, Or.inl rfl, Or.inl rfl, Or.inl rfl, trivial⟩
      replace h := ite_f q56 h
      refine q_cas (k := (nI 54)) (fun q57 => ?_) (fun q57 => ?_)
      · replace h := ite_t q57 h
        refine q_tableInE hX dL_law_44 q57 (by decide +kernel) (by decide +kernel) (off := 3103) (by decide +kernel) (tgt := 3147) (by decide) ?_
        exact q_dr (w_L_law_b3147 hf hX hR hN hS hE  (r28 := (n * 30 + 0)) (s28 := (n * 9600 + 0)) (fun {_ _} hc_ hw_ _ _ _ h => ih (by omega) (by omega) _ _ _  h)  (by omega) (by omega) _ _ _  h) ⟨Or.inl rfl, Or.inl rfl, Or.inl rfl, Or.inl rfl, Or.inl rfl, Or.inl rfl, Or.inl rfl, Or.inl rfl, Or.inl rfl, Or.inl rfl, trivial⟩
      replace h := ite_f q57 h
      refine q_cas (k := (nI 55)) (fun q58 => ?_) (fun q58 => ?_)
      · replace h := ite_t q58 h
        refine q_tableInE hX dL_law_44 q58 (by decide +kernel) (by decide +kernel) (off := 3116) (by decide +kernel) (tgt := 3160) (by decide) ?_
        exact q_dr (w_L_law_b3160 hf hX hR hN hS hE  (r28 := (n * 30 + 0)) (s28 := (n * 9600 + 0)) (fun {_ _} hc_ hw_ _ _ _ h => ih (by omega) (by omega) _ _ _  h)  (by omega) (by omega) _ _ _  h) ⟨Or.inl rfl, Or.inl rfl, Or.inl rfl, Or.inl rfl, Or.inl rfl, Or.inl rfl, Or.inl rfl, Or.inl rfl, Or.inl rfl, Or.inl rfl, trivial⟩
      replace h := ite_f q58 h
      refine q_cas (k := (nI 56)) (fun q59 => ?_) (fun q59 => ?_)
      · replace h := ite_t q59 h
        refine q_tableInE hX dL_law_44 q59 (by decide +kernel) (by decide +kernel) (off := 3172) (by decide +kernel) (tgt := 3216) (by decide) ?_
        exact q_dr (w_L_law_b3216 hf hX hR hN hS hE  (r28 := (n * 30 + 0)) (s28 := (n * 9600 + 0)) (fun {_ _} hc_ hw_ _ _ _ h => ih (by omega) (by omega) _ _ _  h)  (by omega) (by omega) _ _ _  h) ⟨Or.inl rfl, Or.inl rfl, Or.inl rfl, Or.inl rfl, Or.inl rfl, Or.inl rfl, Or.inl rfl, Or.inl rfl, Or.inl rfl, Or.inl rfl, trivial⟩
      replace h := ite_f q59 h
      refine q_cas (k := (nI 57)) (fun q60 => ?_) (fun q60 => ?_)
      · replace h := ite_t q60 h
        refine q_tableInE hX dL_law_44 q60 (by decide +kernel) (by decide +kernel) (off := 3230) (by decide +kernel) (tgt := 3274) (by decide) ?_
        exact q_dr (w_L_law_b3274 hf hX hR hN hS hE  (r28 := (n * 30 + 0)) (s28 := (n * 9600 + 0)) (fun {_ _} hc_ hw_ _ _ _ h => ih (by omega) (by omega) _ _ _  h)  (by omega) (by omega) _ _ _  h) ⟨Or.inl rfl, Or.inl rfl, Or.inl rfl, Or.inl rfl, Or.inl rfl, Or.inl rfl, Or.inl rfl, Or.inl rfl, Or.inl rfl, Or.inl rfl, trivial⟩
      replace h := ite_f q60 h
      refine q_cas (k := (nI 58)) (fun q61 => ?_) (fun q61 => ?_)
      · replace h := ite_t q61 h
        refine q_tableInE hX dL_law_44 q61 (by decide +kernel) (by decide +kernel) (off := 3274) (by decide +kernel) (tgt := 3318) (by decide) ?_
        exact q_dr (w_L_law_b3318 hf hX hR hN hS hE  (r28 := (n * 30 + 0)) (s28 := (n * 9600 + 0)) (fun {_ _} hc_ hw_ _ _ _ h => ih (by omega) (by omega) _ _ _  h)  (by omega) (by omega) _ _ _  h) ⟨Or.inl rfl, Or.inl rfl, Or.inl rfl, Or.inl rfl, Or.inl rfl, Or.inl rfl, Or.inl rfl, Or.inl rfl, Or.inl rfl, Or.inl rfl, trivial⟩
      replace h := ite_f q61 h
      refine q_cas (k := (nI 59)) (fun q62 => ?_) (fun q62 => ?_)
      · replace h := ite_t q62 h
        refine q_tableInE hX dL_law_44 q62 (by decide +kernel) (by decide +kernel) (off := 3318) (by decide +kernel) (tgt := 3362) (by decide) ?_
        exact q_dr (w_L_law_b3362 hf hX hR hN hS hE  (r28 := (n * 30 + 0)) (s28 := (n * 9600 + 0)) (fun {_ _} hc_ hw_ _ _ _ h => ih (by omega) (by omega) _ _ _  h)  (by omega) (by omega) _ _ _  h) ⟨Or.inl rfl, Or.inl rfl, Or.inl rfl, Or.inl rfl, Or.inl rfl, Or.inl rfl, Or.inl rfl, Or.inl rfl, Or.inl rfl, Or.inl rfl, trivial⟩
      replace h := ite_f q62 h
      refine q_cas (k := (nI 60)) (fun q63 => ?_) (fun q63 => ?_)
      · replace h := ite_t q63 h
        refine q_tableInE hX dL_law_44 q63 (by decide +kernel) (by decide +kernel) (off := 3362) (by decide +kernel) (tgt := 3406) (by decide) ?_
        exact q_dr (w_L_law_b3406 hf hX hR hN hS hE  (r28 := (n * 30 + 0)) (s28 := (n * 9600 + 0)) (fun {_ _} hc_ hw_ _ _ _ h => ih (by omega) (by omega) _ _ _  h)  (by omega) (by omega) _ _ _  h) ⟨Or.inl rfl, Or.inl rfl, Or.inl rfl, Or.inl rfl, Or.inl rfl, Or.inl rfl, Or.inl rfl, Or.inl rfl, Or.inl rfl, Or.inl rfl, trivial⟩
      replace h := ite_f q63 h
      refine q_cas (k := (nI 61)) (fun q64 => ?_) (fun q64 => ?_)
      · replace h := ite_t q64 h
        refine q_tableInE hX dL_law_44 q64 (by decide +kernel) (by decide +kernel) (off := 3375) (by decide +kernel) (tgt := 3419) (by decide) ?_
        exact q_dr (w_L_law_b3419 hf hX hR hN hS hE  (r28 := (n * 30 + 0)) (s28 := (n * 9600 + 0)) (fun {_ _} hc_ hw_ _ _ _ h => ih (by omega) (by omega) _ _ _  h)  (by omega) (by omega) _ _ _  h) ⟨Or.inl rfl, Or.inl rfl, Or.inl rfl, Or.inl rfl, Or.inl rfl, Or.inl rfl, Or.inl rfl, Or.inl rfl, Or.inl rfl, Or.inl rfl, trivial⟩
      replace h := ite_f q64 h
      refine q_cas (k := (nI 62)) (fun q65 => ?_) (fun q65 => ?_)
      · replace h := ite_t q65 h
        refine q_tableInE hX dL_law_44 q65 (by decide +kernel) (by decide +kernel) (off := 3419) (by decide +kernel) (tgt := 3463) (by decide) ?_
        exact q_dr (w_L_law_b3463 hf hX hR hN hS hE  (r28 := (n * 30 + 0)) (s28 := (n * 9600 + 0)) (fun {_ _} hc_ hw_ _ _ _ h => ih (by omega) (by omega) _ _ _  h)  (by omega) (by omega) _ _ _  h) ⟨Or.inl rfl, Or.inl rfl, Or.inl rfl, Or.inl rfl, Or.inl rfl, Or.inl rfl, Or.inl rfl, Or.inl rfl, Or.inl rfl, Or.inl rfl, trivial⟩
      replace h := ite_f q65 h
      refine q_cas (k := (nI 63)) (fun q66 => ?_) (fun q66 => ?_)
      · replace h := ite_t q66 h
        refine q_tableInE hX dL_law_44 q66 (by decide +kernel) (by decide +kernel) (off := 3432) (by decide +kernel) (tgt := 3476) (by decide) ?_
        exact q_dr (w_L_law_b3476 hf hX hR hN hS hE  (r28 := (n * 30 + 0)) (s28 := (n * 9600 + 0)) (fun {_ _} hc_ hw_ _ _ _ h => ih (by omega) (by omega) _ _ _  h)  (by omega) (by omega) _ _ _  h) ⟨Or.inl rfl, Or.inl rfl, Or.inl rfl, Or.inl rfl, Or.inl rfl, Or.inl rfl, Or.inl rfl, Or.inl rfl, Or.inl rfl, Or.inl rfl, trivial⟩
      replace h := ite_f q66 h
      refine q_tableOut hX dL_law_44 (by have w0 := swn q3 (by decide); have w1 := swn q4 (by decide); have w2 := swn q5 (by decide); have w3 := swn q6 (by decide); have w4 := swn q7 (by decide); have w5 := swn q8 (by decide); have w6 := swn q9 (by decide); have w7 := swn q10 (by decide); have w8 := swn q11 (by decide); have w9 := swn q12 (by decide); have w10 := swn q13 (by decide); have w11 := swn q14 (by decide); have w12 := swn q15 (by decide); have w13 := swn q16 (by decide); have w14 := swn q17 (by decide); have w15 := swn q18 (by decide); have w16 := swn q19 (by decide); have w17 := swn q20 (by decide); have w18 := swn q21 (by decide); have w19 := swn q22 (by decide); have w20 := swn q23 (by decide); have w21 := swn q24 (by decide); have w22 := swn q25 (by decide); have w23 := swn q26 (by decide); have w24 := swn q27 (by decide); have w25 := swn q28 (by decide); have w26 := swn q29 (by decide); have w27 := swn q30 (by decide); have w28 := swn q31 (by decide); have w29 := swn q32 (by decide); have w30 := swn q33 (by decide); have w31 := swn q34 (by decide); have w32 := swn q35 (by decide); have w33 := swn q36 (by decide); have w34 := swn q37 (by decide); have w35 := swn q38 (by decide); have w36 := swn q39 (by decide); have w37 := swn q40 (by decide); have w38 := swn q41 (by decide); have w39 := swn q42 (by decide); have w40 := swn q43 (by decide); have w41 := swn q44 (by decide); have w42 := swn q45 (by decide); have w43 := swn q46 (by decide); have w44 := swn q47 (by decide); have w45 := swn q48 (by decide); have w46 := swn q49 (by decide); have w47 := swn q50 (by decide); have w48 := swn q51 (by decide); have w49 := swn q52 (by decide); have w50 := swn q53 (by decide); have w51 := swn q54 (by decide); have w52 := swn q55 (by decide); have w53 := swn q56 (by decide); have w54 := swn q57 (by decide); have w55 := swn q58 (by decide); have w56 := swn q59 (by decide); have w57 := swn q60 (by decide); have w58 := swn q61 (by decide); have w59 := swn q62 (by decide); have w60 := swn q63 (by decide); have w61 := swn q64 (by decide); have w62 := swn q65 (by decide); have w63 := swn q66 (by decide); omega) (tgt := 3520) (by decide) ?_
      exact q_dr (w_L_law_b3520 hf hX hR hN hS hE  (r28 := (n * 30 + 0)) (s28 := (n * 9600 + 0)) (fun {_ _} hc_ hw_ _ _ _ h => ih (by omega) (by omega) _ _ _  h)  (by omega) (by omega) _ _ _  h) ⟨Or.inl rfl, Or.inl rfl, Or.inl rfl, Or.inl rfl, Or.inl rfl, Or.inl rfl, Or.inl rfl, Or.inl rfl, Or.inl rfl, Or.inl rfl, trivial⟩
set_option maxRecDepth 100000 in
set_option maxHeartbeats 4000000 in
theorem w_L_law {X : XT} {D : DT} {l : Launch} {L : LT} {xs : Nat → Int32} {nn : Nat} {I : IT} {K : Int32 → IT → LT → Prop} {c w : Nat} (hf : l.stackTraces = false) (hX : OK X D cL_law "TeaHouseLaw" 10) (hR : Room2 X l D 17 603072 7223402) (hN : NCX X) (hS : ScrAt X D nn xs) (hE : EndAt X D K 603072 7223402) (hc : c + 15420 ≤ 603072) (hw : w + 4934400 ≤ 7223402) (h : f_L_law xs nn I L K) : J2 X D 10 c w I L 25 [.ref 1000300, .ref 0, .ref 190, .ref 195, .ref 196, .retAddr 0, .retAddr 0, .retAddr 0, .retAddr 0, .retAddr 0] [] := by
  rw [f_L_law] at h
  refine q_iconst hX dL_law_25 (v := (nI 0)) (by decide) ?_
  refine q_istore hX dL_law_26 (by decide) (ls' := [_, _, _, _, _, _, _, _, _, _]) rfl ?_
  exact q_dr (w_L_law_b28 hf hX hR hN hS hE    _  (by omega) (by omega) _ _ _  h) ⟨Or.inl rfl, Or.inl rfl, Or.inl rfl, Or.inl rfl, Or.inl rfl, Or.inl rfl, Or.inl rfl, Or.inl rfl, Or.inl rfl, Or.inl rfl, trivial⟩
