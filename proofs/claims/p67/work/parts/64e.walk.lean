set_option maxRecDepth 100000 in
set_option maxHeartbeats 4000000 in
theorem w_L_law_b216 {X : XT} {D : DT} {l : Launch} {L : LT} {xs : Nat → Int32} {nn : Nat} {K : Int32 → IT → Prop} {X244 : Int32 → Int32 → Int32 → Int32 → Int32 → UInt32 → UInt32 → UInt64 → Int32 → UInt32 → Int32 → Int32 → Int32 → IT → Prop} (hf : l.stackTraces = false) (hX : OK X D cL_law "TeaHouseLaw" 21) (hR : Room2 X l D 14 730279 6904340) (hN : NCX X) (hS : ScrX X D nn xs) (hE : EndAt X D L K 730279 6904340) {r244 s244 : Nat} (hx244 : ∀ {c w : Nat}, c + r244 ≤ 730279 → w + s244 ≤ 6904340 → ∀ (v2 : Int32) (v3 : Int32) (v4 : Int32) (v5 : Int32) (v6 : Int32) (v7 : UInt32) (v8 : UInt32) (v9 : UInt64) (v11 : Int32) (v12 : UInt32) (v14 : Int32) (v15 : Int32) (v16 : Int32) (I : IT), X244 v2 v3 v4 v5 v6 v7 v8 v9 v11 v12 v14 v15 v16 I → J2 X D 21 c w I L 244 [.ref 1000300, .ref 0, .int v2, .int v3, .int v4, .int v5, .int v6, .float v7, .float v8, .double v9, .retAddr 0, .int v11, .float v12, .retAddr 0, .int v14, .int v15, .int v16, .retAddr 0, .retAddr 0, .retAddr 0, .retAddr 0] []) : ∀ (n : Nat), ∀ {c w : Nat}, c + (0 + r244) ≤ 730279 → w + (0 + s244) ≤ 6904340 → ∀ (v2 : Int32) (v3 : Int32) (v4 : Int32) (v5 : Int32) (v6 : Int32) (v7 : UInt32) (v8 : UInt32) (v9 : UInt64) (v11 : Int32) (v12 : UInt32) (v14 : Int32) (v15 : Int32) (v16 : Int32) (v17 : Int32) (I : IT), f_L_law_b216 xs nn X244 K n v2 v3 v4 v5 v6 v7 v8 v9 v11 v12 v14 v15 v16 v17 I → J2 X D 21 c w I L 216 [.ref 1000300, .ref 0, .int v2, .int v3, .int v4, .int v5, .int v6, .float v7, .float v8, .double v9, .retAddr 0, .int v11, .float v12, .retAddr 0, .int v14, .int v15, .int v16, .int v17, .retAddr 0, .retAddr 0, .retAddr 0] [] := by
  intro n
  induction n with
  | zero => intro c w hc hw v2 v3 v4 v5 v6 v7 v8 v9 v11 v12 v14 v15 v16 v17 I h; exact False.elim h
  | succ n ih =>
    intro c w hc hw v2 v3 v4 v5 v6 v7 v8 v9 v11 v12 v14 v15 v16 v17 I h
    rw [f_L_law_b216] at h
    refine q_sipush hX dL_law_216 (v := (nI 200)) (by decide) ?_
    refine q_iload hX dL_law_219 rfl ?_
    refine q_iconst hX dL_law_221 (v := (nI 3)) (by decide) ?_
    refine q_iload hX dL_law_222 rfl ?_
    refine q_imul hX dL_law_224 ?_
    refine q_iadd hX dL_law_225 ?_
    refine q_iconst hX dL_law_226 (v := (nI 1)) (by decide) ?_
    refine q_isub hX dL_law_227 ?_
    refine q_min hX hR mm_L_206 w_min1 w_math w_min2 dL_law_228 (Nat.le_of_ble_eq_true rfl) (Nat.le_of_lt_succ (by omega)) (Nat.le_of_lt_succ (by omega)) (Nat.le_of_lt_succ (by omega)) ?_
    replace h := bnd_e h
    refine q_istore hX dL_law_231 (by decide) (ls' := [_, _, _, _, _, _, _, _, _, _, _, _, _, _, _, _, _, _, _, _, _]) rfl ?_
    replace h := bnd_e h
    refine q_iinc hX dL_law_233 (by decide) rfl (v := _ + nI 1) (ls' := [_, _, _, _, _, _, _, _, _, _, _, _, _, _, _, _, _, _, _, _, _]) rfl rfl ?_
    refine q_iload hX dL_law_236 rfl ?_
    refine q_sipush hX dL_law_238 (v := (nI 200)) (by decide) ?_
    refine q_icmp_lt hX dL_law_241 (tgt := 216) (by decide) (fun q3 => ?_) (fun q3 => ?_)
    · replace h := ite_t q3 h
      exact q_dr (ih (Nat.le_of_lt_succ (by omega)) (Nat.le_of_lt_succ (by omega)) _ _ _ _ _ _ _ _ _ _ _ _ _ _ _  h) ⟨Or.inl rfl, Or.inl rfl, Or.inl rfl, Or.inl rfl, Or.inl rfl, Or.inl rfl, Or.inl rfl, Or.inl rfl, Or.inl rfl, Or.inl rfl, Or.inl rfl, Or.inl rfl, Or.inl rfl, Or.inl rfl, Or.inl rfl, Or.inl rfl, Or.inl rfl, Or.inl rfl, Or.inl rfl, Or.inl rfl, Or.inl rfl, trivial⟩
    · replace h := ite_f q3 h
      exact q_dr (hx244 (Nat.le_of_lt_succ (by omega)) (Nat.le_of_lt_succ (by omega)) _ _ _ _ _ _ _ _ _ _ _ _ _ _  h) ⟨Or.inl rfl, Or.inl rfl, Or.inl rfl, Or.inl rfl, Or.inl rfl, Or.inl rfl, Or.inl rfl, Or.inl rfl, Or.inl rfl, Or.inl rfl, Or.inl rfl, Or.inl rfl, Or.inl rfl, Or.inl rfl, Or.inl rfl, Or.inl rfl, Or.inl rfl, Or.inr rfl, Or.inl rfl, Or.inl rfl, Or.inl rfl, trivial⟩
set_option maxRecDepth 100000 in
set_option maxHeartbeats 4000000 in
theorem w_L_law_b386 {X : XT} {D : DT} {l : Launch} {L : LT} {xs : Nat → Int32} {nn : Nat} {K : Int32 → IT → Prop} {X63 : Int32 → Int32 → Int32 → Int32 → Int32 → UInt32 → UInt32 → UInt64 → Int32 → IT → Prop} (hf : l.stackTraces = false) (hX : OK X D cL_law "TeaHouseLaw" 21) (hR : Room2 X l D 14 730279 6904340) (hN : NCX X) (hS : ScrX X D nn xs) (hE : EndAt X D L K 730279 6904340) {r63 s63 : Nat} (hx63 : ∀ {c w : Nat}, c + r63 ≤ 730279 → w + s63 ≤ 6904340 → ∀ (v2 : Int32) (v3 : Int32) (v4 : Int32) (v5 : Int32) (v6 : Int32) (v7 : UInt32) (v8 : UInt32) (v9 : UInt64) (v11 : Int32) (I : IT), X63 v2 v3 v4 v5 v6 v7 v8 v9 v11 I → J2 X D 21 c w I L 63 [.ref 1000300, .ref 0, .int v2, .int v3, .int v4, .int v5, .int v6, .float v7, .float v8, .double v9, .retAddr 0, .int v11, .retAddr 0, .retAddr 0, .retAddr 0, .retAddr 0, .retAddr 0, .retAddr 0, .retAddr 0, .retAddr 0, .retAddr 0] []) : ∀ {c w : Nat}, c + (209 + r63) ≤ 730279 → w + (1726 + s63) ≤ 6904340 → ∀ (v2 : Int32) (v3 : Int32) (v4 : Int32) (v5 : Int32) (v6 : Int32) (v7 : UInt32) (v8 : UInt32) (v9 : UInt64) (v11 : Int32) (s1 : Int32) (s2 : Nat) (s3 : Nat) (I : IT), isDy s2 → isTx s3 → f_L_law_b386 xs nn X63 K v2 v3 v4 v5 v6 v7 v8 v9 v11 s1 s2 s3 I → J2 X D 21 c w I L 386 [.ref 1000300, .ref 0, .int v2, .int v3, .int v4, .int v5, .int v6, .float v7, .float v8, .double v9, .retAddr 0, .int v11, .retAddr 0, .retAddr 0, .retAddr 0, .retAddr 0, .retAddr 0, .retAddr 0, .retAddr 0, .retAddr 0, .retAddr 0] [.ref s3, .ref s2, .int s1, .ref 0] := by
  intro c w hc hw v2 v3 v4 v5 v6 v7 v8 v9 v11 s1 s2 s3 I hs2 hs3 h
  rw [f_L_law_b386] at h
  refine q_T_appS hX hR hs2 hs3 lk_L_223 dL_law_386 (Nat.le_of_ble_eq_true rfl) (Nat.le_of_lt_succ (by omega)) (Nat.le_of_lt_succ (by omega)) (Nat.le_of_lt_succ (by omega)) h ?_
  intro I1 h
  refine q_T_str hX hR hs2 lk_L_238 dL_law_389 (Nat.le_of_ble_eq_true rfl) (Nat.le_of_lt_succ (by omega)) (Nat.le_of_lt_succ (by omega)) (Nat.le_of_lt_succ (by omega)) h ?_
  intro x3 I2 hrx3 h
  refine q_SL_z hX hR hN hS (w_L_isLine hf (Or.inr hrx3) h) lk_L_250 dL_law_392 rfl rfl (Nat.le_of_ble_eq_true rfl) (Nat.le_of_lt_succ (by omega)) (Nat.le_of_lt_succ (by omega)) (Nat.le_of_lt_succ (by omega)) ?_
  intro x4 I5 hrx4 h
  refine q_if_ne hX dL_law_395 (tgt := 400) (by decide) (fun q6 => ?_) (fun q6 => ?_)
  · replace h := ite_f q6 h
    refine q_iload hX dL_law_400 rfl ?_
    refine q_if_ne hX dL_law_402 (tgt := 408) (by decide) (fun q7 => ?_) (fun q7 => ?_)
    · replace h := ite_f q7 h
      refine q_aload_n hX dL_law_408 rfl ?_
      refine q_iload hX dL_law_409 rfl ?_
      refine q_iconst hX dL_law_411 (v := (nI 1)) (by decide) ?_
      refine q_isub hX dL_law_412 ?_
      refine q_W_ip hX hR (w_X8_kettleByTemperature hf  h) lk_L_75 (rc2_of (ci := 9) rfl rfl) dL_law_413 rfl rfl (Nat.le_of_ble_eq_true rfl) (Nat.le_of_lt_succ (by omega)) (Nat.le_of_lt_succ (by omega)) (Nat.le_of_lt_succ (by omega)) ?_ ?_
      rotate_left
      · intro E h
        exact False.elim h
      intro x9 h
      refine q_istore hX dL_law_416 (by decide) (ls' := [_, _, _, _, _, _, _, _, _, _, _, _, _, _, _, _, _, _, _, _, _]) rfl ?_
      refine q_aload_n hX dL_law_418 rfl ?_
      refine q_iload hX dL_law_419 rfl ?_
      refine q_W_ip hX hR (w_X8_kettleByTemperature hf  h) lk_L_75 (rc2_of (ci := 9) rfl rfl) dL_law_421 rfl rfl (Nat.le_of_ble_eq_true rfl) (Nat.le_of_lt_succ (by omega)) (Nat.le_of_lt_succ (by omega)) (Nat.le_of_lt_succ (by omega)) ?_ ?_
      rotate_left
      · intro E h
        exact False.elim h
      intro x10 h
      refine q_istore hX dL_law_424 (by decide) (ls' := [_, _, _, _, _, _, _, _, _, _, _, _, _, _, _, _, _, _, _, _, _]) rfl ?_
      refine q_aload_n hX dL_law_426 rfl ?_
      refine q_iload hX dL_law_427 rfl ?_
      refine q_W_fp hX hR (w_X8_temperature hf  h) lk_L_158 (rc2_of (ci := 9) rfl rfl) dL_law_429 rfl rfl (Nat.le_of_ble_eq_true rfl) (Nat.le_of_lt_succ (by omega)) (Nat.le_of_lt_succ (by omega)) (Nat.le_of_lt_succ (by omega)) ?_ ?_
      rotate_left
      · intro E h
        exact False.elim h
      intro x11 h
      refine q_aload_n hX dL_law_432 rfl ?_
      refine q_iload hX dL_law_433 rfl ?_
      refine q_W_fp hX hR (w_X8_temperature hf  h) lk_L_158 (rc2_of (ci := 9) rfl rfl) dL_law_435 rfl rfl (Nat.le_of_ble_eq_true rfl) (Nat.le_of_lt_succ (by omega)) (Nat.le_of_lt_succ (by omega)) (Nat.le_of_lt_succ (by omega)) ?_ ?_
      rotate_left
      · intro E h
        exact False.elim h
      intro x12 h
      obtain ⟨z13, h⟩ := h
      refine q_fsub hX dL_law_438 z13 ?_
      refine q_fstore hX dL_law_439 (by decide) (ls' := [_, _, _, _, _, _, _, _, _, _, _, _, _, _, _, _, _, _, _, _, _]) rfl ?_
      refine q_aload_n hX dL_law_441 rfl ?_
      refine q_iload hX dL_law_442 rfl ?_
      refine q_W_fp hX hR (w_X8_volume hf  h) lk_L_154 (rc2_of (ci := 9) rfl rfl) dL_law_444 rfl rfl (Nat.le_of_ble_eq_true rfl) (Nat.le_of_lt_succ (by omega)) (Nat.le_of_lt_succ (by omega)) (Nat.le_of_lt_succ (by omega)) ?_ ?_
      rotate_left
      · intro E h
        exact False.elim h
      intro x14 h
      refine q_aload_n hX dL_law_447 rfl ?_
      refine q_iload hX dL_law_448 rfl ?_
      refine q_W_fp hX hR (w_X8_volume hf  h) lk_L_154 (rc2_of (ci := 9) rfl rfl) dL_law_450 rfl rfl (Nat.le_of_ble_eq_true rfl) (Nat.le_of_lt_succ (by omega)) (Nat.le_of_lt_succ (by omega)) (Nat.le_of_lt_succ (by omega)) ?_ ?_
      rotate_left
      · intro E h
        exact False.elim h
      intro x15 h
      obtain ⟨z16, h⟩ := h
      refine q_fsub hX dL_law_453 z16 ?_
      refine q_fstore hX dL_law_454 (by decide) (ls' := [_, _, _, _, _, _, _, _, _, _, _, _, _, _, _, _, _, _, _, _, _]) rfl ?_
      refine q_fload hX dL_law_456 rfl ?_
      refine q_fconst0 hX dL_law_458 ?_
      refine q_fcmp hX dL_law_459 ?_
      refine q_if_lt hX dL_law_460 (tgt := 491) (by decide) (fun q17 => ?_) (fun q17 => ?_)
      · replace h := ite_t q17 h
        refine q_iconst hX dL_law_491 (v := (nI 0)) (by decide) ?_
        exact hE dL_law_492 (Nat.le_of_lt_succ (by omega)) (Nat.le_of_lt_succ (by omega)) h
      · replace h := ite_f q17 h
        refine q_fload hX dL_law_463 rfl ?_
        refine q_fconst0 hX dL_law_465 ?_
        refine q_fcmp hX dL_law_466 ?_
        refine q_if_ne hX dL_law_467 (tgt := 493) (by decide) (fun q18 => ?_) (fun q18 => ?_)
        · replace h := ite_f q18 h
          replace h := bnd_e h
          refine q_iinc hX dL_law_493 (by decide) rfl (v := _ + nI 1) (ls' := [_, _, _, _, _, _, _, _, _, _, _, _, _, _, _, _, _, _, _, _, _]) rfl rfl ?_
          refine q_goto hX dL_law_496 (tgt := 63) (by decide) ?_
          exact q_dr (hx63 (Nat.le_of_lt_succ (by omega)) (Nat.le_of_lt_succ (by omega)) _ _ _ _ _ _ _ _ _ _  h) ⟨Or.inl rfl, Or.inl rfl, Or.inl rfl, Or.inl rfl, Or.inl rfl, Or.inl rfl, Or.inl rfl, Or.inl rfl, Or.inl rfl, Or.inl rfl, Or.inl rfl, Or.inl rfl, Or.inl rfl, Or.inl rfl, Or.inl rfl, Or.inl rfl, Or.inl rfl, Or.inr rfl, Or.inr rfl, Or.inr rfl, Or.inr rfl, trivial⟩
        · replace h := ite_t q18 h
          refine q_fload hX dL_law_470 rfl ?_
          refine q_fconst0 hX dL_law_472 ?_
          refine q_fcmp hX dL_law_473 ?_
          refine q_if_lt hX dL_law_474 (tgt := 491) (by decide) (fun q19 => ?_) (fun q19 => ?_)
          · replace h := ite_t q19 h
            refine q_iconst hX dL_law_491 (v := (nI 0)) (by decide) ?_
            exact hE dL_law_492 (Nat.le_of_lt_succ (by omega)) (Nat.le_of_lt_succ (by omega)) h
          · replace h := ite_f q19 h
            refine q_fload hX dL_law_477 rfl ?_
            refine q_fconst0 hX dL_law_479 ?_
            refine q_fcmp hX dL_law_480 ?_
            refine q_if_ne hX dL_law_481 (tgt := 493) (by decide) (fun q20 => ?_) (fun q20 => ?_)
            · replace h := ite_f q20 h
              replace h := bnd_e h
              refine q_iinc hX dL_law_493 (by decide) rfl (v := _ + nI 1) (ls' := [_, _, _, _, _, _, _, _, _, _, _, _, _, _, _, _, _, _, _, _, _]) rfl rfl ?_
              refine q_goto hX dL_law_496 (tgt := 63) (by decide) ?_
              exact q_dr (hx63 (Nat.le_of_lt_succ (by omega)) (Nat.le_of_lt_succ (by omega)) _ _ _ _ _ _ _ _ _ _  h) ⟨Or.inl rfl, Or.inl rfl, Or.inl rfl, Or.inl rfl, Or.inl rfl, Or.inl rfl, Or.inl rfl, Or.inl rfl, Or.inl rfl, Or.inl rfl, Or.inl rfl, Or.inl rfl, Or.inl rfl, Or.inl rfl, Or.inl rfl, Or.inl rfl, Or.inl rfl, Or.inr rfl, Or.inr rfl, Or.inr rfl, Or.inr rfl, trivial⟩
            · replace h := ite_t q20 h
              refine q_iload hX dL_law_484 rfl ?_
              refine q_iload hX dL_law_486 rfl ?_
              refine q_icmp_le hX dL_law_488 (tgt := 493) (by decide) (fun q21 => ?_) (fun q21 => ?_)
              · replace h := ite_t q21 h
                replace h := bnd_e h
                refine q_iinc hX dL_law_493 (by decide) rfl (v := _ + nI 1) (ls' := [_, _, _, _, _, _, _, _, _, _, _, _, _, _, _, _, _, _, _, _, _]) rfl rfl ?_
                refine q_goto hX dL_law_496 (tgt := 63) (by decide) ?_
                exact q_dr (hx63 (Nat.le_of_lt_succ (by omega)) (Nat.le_of_lt_succ (by omega)) _ _ _ _ _ _ _ _ _ _  h) ⟨Or.inl rfl, Or.inl rfl, Or.inl rfl, Or.inl rfl, Or.inl rfl, Or.inl rfl, Or.inl rfl, Or.inl rfl, Or.inl rfl, Or.inl rfl, Or.inl rfl, Or.inl rfl, Or.inl rfl, Or.inl rfl, Or.inl rfl, Or.inl rfl, Or.inl rfl, Or.inr rfl, Or.inr rfl, Or.inr rfl, Or.inr rfl, trivial⟩
              · replace h := ite_f q21 h
                refine q_iconst hX dL_law_491 (v := (nI 0)) (by decide) ?_
                exact hE dL_law_492 (Nat.le_of_lt_succ (by omega)) (Nat.le_of_lt_succ (by omega)) h
    · replace h := ite_t q7 h
      refine q_goto hX dL_law_405 (tgt := 493) (by decide) ?_
      replace h := bnd_e h
      refine q_iinc hX dL_law_493 (by decide) rfl (v := _ + nI 1) (ls' := [_, _, _, _, _, _, _, _, _, _, _, _, _, _, _, _, _, _, _, _, _]) rfl rfl ?_
      refine q_goto hX dL_law_496 (tgt := 63) (by decide) ?_
      exact q_dr (hx63 (Nat.le_of_lt_succ (by omega)) (Nat.le_of_lt_succ (by omega)) _ _ _ _ _ _ _ _ _ _  h) ⟨Or.inl rfl, Or.inl rfl, Or.inl rfl, Or.inl rfl, Or.inl rfl, Or.inl rfl, Or.inl rfl, Or.inl rfl, Or.inl rfl, Or.inl rfl, Or.inl rfl, Or.inl rfl, Or.inl rfl, Or.inl rfl, Or.inl rfl, Or.inl rfl, Or.inl rfl, Or.inl rfl, Or.inl rfl, Or.inl rfl, Or.inl rfl, trivial⟩
  · replace h := ite_t q6 h
    refine q_iconst hX dL_law_398 (v := (nI 0)) (by decide) ?_
    exact hE dL_law_399 (Nat.le_of_lt_succ (by omega)) (Nat.le_of_lt_succ (by omega)) h
set_option maxRecDepth 100000 in
set_option maxHeartbeats 4000000 in
theorem w_L_law_b367 {X : XT} {D : DT} {l : Launch} {L : LT} {xs : Nat → Int32} {nn : Nat} {K : Int32 → IT → Prop} {X63 : Int32 → Int32 → Int32 → Int32 → Int32 → UInt32 → UInt32 → UInt64 → Int32 → IT → Prop} (hf : l.stackTraces = false) (hX : OK X D cL_law "TeaHouseLaw" 21) (hR : Room2 X l D 14 730279 6904340) (hN : NCX X) (hS : ScrX X D nn xs) (hE : EndAt X D L K 730279 6904340) {r63 s63 : Nat} (hx63 : ∀ {c w : Nat}, c + r63 ≤ 730279 → w + s63 ≤ 6904340 → ∀ (v2 : Int32) (v3 : Int32) (v4 : Int32) (v5 : Int32) (v6 : Int32) (v7 : UInt32) (v8 : UInt32) (v9 : UInt64) (v11 : Int32) (I : IT), X63 v2 v3 v4 v5 v6 v7 v8 v9 v11 I → J2 X D 21 c w I L 63 [.ref 1000300, .ref 0, .int v2, .int v3, .int v4, .int v5, .int v6, .float v7, .float v8, .double v9, .retAddr 0, .int v11, .retAddr 0, .retAddr 0, .retAddr 0, .retAddr 0, .retAddr 0, .retAddr 0, .retAddr 0, .retAddr 0, .retAddr 0] []) : ∀ {c w : Nat}, c + (211 + r63) ≤ 730279 → w + (2052 + s63) ≤ 6904340 → ∀ (v2 : Int32) (v3 : Int32) (v4 : Int32) (v5 : Int32) (v6 : Int32) (v7 : UInt32) (v8 : UInt32) (v9 : UInt64) (v11 : Int32) (s1 : Int32) (s2 : Nat) (s3 : Nat) (I : IT), isDy s2 → isTx s3 → f_L_law_b367 xs nn X63 K v2 v3 v4 v5 v6 v7 v8 v9 v11 s1 s2 s3 I → J2 X D 21 c w I L 367 [.ref 1000300, .ref 0, .int v2, .int v3, .int v4, .int v5, .int v6, .float v7, .float v8, .double v9, .retAddr 0, .int v11, .retAddr 0, .retAddr 0, .retAddr 0, .retAddr 0, .retAddr 0, .retAddr 0, .retAddr 0, .retAddr 0, .retAddr 0] [.ref s3, .ref s2, .int s1, .ref 0] := by
  intro c w hc hw v2 v3 v4 v5 v6 v7 v8 v9 v11 s1 s2 s3 I hs2 hs3 h
  rw [f_L_law_b367] at h
  refine q_T_appS hX hR hs2 hs3 lk_L_223 dL_law_367 (Nat.le_of_ble_eq_true rfl) (Nat.le_of_lt_succ (by omega)) (Nat.le_of_lt_succ (by omega)) (Nat.le_of_lt_succ (by omega)) h ?_
  intro I1 h
  refine q_aload_n hX dL_law_370 rfl ?_
  refine q_iload hX dL_law_371 rfl ?_
  refine q_W_zp hX hR (w_X8_isBoiling hf  h) lk_L_244 (rc2_of (ci := 9) rfl rfl) dL_law_373 rfl rfl (Nat.le_of_ble_eq_true rfl) (Nat.le_of_lt_succ (by omega)) (Nat.le_of_lt_succ (by omega)) (Nat.le_of_lt_succ (by omega)) ?_ ?_
  rotate_left
  · intro E h
    exact False.elim h
  intro x2 hrx2 h
  refine q_if_eq hX dL_law_376 (tgt := 384) (by decide) (fun q3 => ?_) (fun q3 => ?_)
  · replace h := ite_t q3 h
    refine q_ldcS hX (tx := "") (code := 65) (by decide +kernel) dL_law_384 ?_
    exact q_dr (w_L_law_b386 hf hX hR hN hS hE  (r63 := r63) (s63 := s63) hx63  (Nat.le_of_lt_succ (by omega)) (Nat.le_of_lt_succ (by omega)) _ _ _ _ _ _ _ _ _ _ _ _ _ hs2 (tx_c (a := 1000065) rfl) h) ⟨Or.inl rfl, Or.inl rfl, Or.inl rfl, Or.inl rfl, Or.inl rfl, Or.inl rfl, Or.inl rfl, Or.inl rfl, Or.inl rfl, Or.inl rfl, Or.inl rfl, Or.inl rfl, Or.inl rfl, Or.inl rfl, Or.inl rfl, Or.inl rfl, Or.inl rfl, Or.inl rfl, Or.inl rfl, Or.inl rfl, Or.inl rfl, trivial⟩
  · replace h := ite_f q3 h
    refine q_ldcS hX (tx := "!") (code := 66) (by decide +kernel) dL_law_379 ?_
    refine q_goto hX dL_law_381 (tgt := 386) (by decide) ?_
    exact q_dr (w_L_law_b386 hf hX hR hN hS hE  (r63 := r63) (s63 := s63) hx63  (Nat.le_of_lt_succ (by omega)) (Nat.le_of_lt_succ (by omega)) _ _ _ _ _ _ _ _ _ _ _ _ _ hs2 (tx_c (a := 1000066) rfl) h) ⟨Or.inl rfl, Or.inl rfl, Or.inl rfl, Or.inl rfl, Or.inl rfl, Or.inl rfl, Or.inl rfl, Or.inl rfl, Or.inl rfl, Or.inl rfl, Or.inl rfl, Or.inl rfl, Or.inl rfl, Or.inl rfl, Or.inl rfl, Or.inl rfl, Or.inl rfl, Or.inl rfl, Or.inl rfl, Or.inl rfl, Or.inl rfl, trivial⟩
set_option maxRecDepth 100000 in
set_option maxHeartbeats 4000000 in
theorem w_L_law_b244 {X : XT} {D : DT} {l : Launch} {L : LT} {xs : Nat → Int32} {nn : Nat} {K : Int32 → IT → Prop} {X63 : Int32 → Int32 → Int32 → Int32 → Int32 → UInt32 → UInt32 → UInt64 → Int32 → IT → Prop} (hf : l.stackTraces = false) (hX : OK X D cL_law "TeaHouseLaw" 21) (hR : Room2 X l D 14 730279 6904340) (hN : NCX X) (hS : ScrX X D nn xs) (hE : EndAt X D L K 730279 6904340) {r63 s63 : Nat} (hx63 : ∀ {c w : Nat}, c + r63 ≤ 730279 → w + s63 ≤ 6904340 → ∀ (v2 : Int32) (v3 : Int32) (v4 : Int32) (v5 : Int32) (v6 : Int32) (v7 : UInt32) (v8 : UInt32) (v9 : UInt64) (v11 : Int32) (I : IT), X63 v2 v3 v4 v5 v6 v7 v8 v9 v11 I → J2 X D 21 c w I L 63 [.ref 1000300, .ref 0, .int v2, .int v3, .int v4, .int v5, .int v6, .float v7, .float v8, .double v9, .retAddr 0, .int v11, .retAddr 0, .retAddr 0, .retAddr 0, .retAddr 0, .retAddr 0, .retAddr 0, .retAddr 0, .retAddr 0, .retAddr 0] []) : ∀ {c w : Nat}, c + (246 + r63) ≤ 730279 → w + (9658 + s63) ≤ 6904340 → ∀ (v2 : Int32) (v3 : Int32) (v4 : Int32) (v5 : Int32) (v6 : Int32) (v7 : UInt32) (v8 : UInt32) (v9 : UInt64) (v11 : Int32) (v12 : UInt32) (v14 : Int32) (v15 : Int32) (v16 : Int32) (I : IT), f_L_law_b244 xs nn X63 K v2 v3 v4 v5 v6 v7 v8 v9 v11 v12 v14 v15 v16 I → J2 X D 21 c w I L 244 [.ref 1000300, .ref 0, .int v2, .int v3, .int v4, .int v5, .int v6, .float v7, .float v8, .double v9, .retAddr 0, .int v11, .float v12, .retAddr 0, .int v14, .int v15, .int v16, .retAddr 0, .retAddr 0, .retAddr 0, .retAddr 0] [] := by
  intro c w hc hw v2 v3 v4 v5 v6 v7 v8 v9 v11 v12 v14 v15 v16 I h
  rw [f_L_law_b244] at h
  refine q_aload_n hX dL_law_244 rfl ?_
  refine q_iload hX dL_law_245 rfl ?_
  refine q_SLw_i hX hR hN hS (w_L_minutesUntilBoiling hf  h) lk_LW_211 dL_law_247 rfl rfl (Nat.le_of_ble_eq_true rfl) (Nat.le_of_lt_succ (by omega)) (Nat.le_of_lt_succ (by omega)) (Nat.le_of_lt_succ (by omega)) ?_
  intro x1 I2 h
  refine q_iload hX dL_law_250 rfl ?_
  refine q_icmp_ne hX dL_law_252 (tgt := 266) (by decide) (fun q3 => ?_) (fun q3 => ?_)
  · replace h := ite_f q3 h
    refine q_iconst hX dL_law_266 (v := (nI 0)) (by decide) ?_
    exact hE dL_law_267 (Nat.le_of_lt_succ (by omega)) (Nat.le_of_lt_succ (by omega)) h
  · replace h := ite_t q3 h
    refine q_aload_n hX dL_law_255 rfl ?_
    refine q_iload hX dL_law_256 rfl ?_
    refine q_SLw_i hX hR hN hS (w_L_minutesUntilBoilingByMinutes hf  h) lk_LW_213 dL_law_258 rfl rfl (Nat.le_of_ble_eq_true rfl) (Nat.le_of_lt_succ (by omega)) (Nat.le_of_lt_succ (by omega)) (Nat.le_of_lt_succ (by omega)) ?_
    intro x4 I5 h
    refine q_iload hX dL_law_261 rfl ?_
    refine q_icmp_eq hX dL_law_263 (tgt := 268) (by decide) (fun q6 => ?_) (fun q6 => ?_)
    · replace h := ite_t q6 h
      refine q_aload_n hX dL_law_268 rfl ?_
      refine q_aload_n hX dL_law_269 rfl ?_
      refine q_iload hX dL_law_270 rfl ?_
      refine q_W_i hX hR (w_X8_formatKettle hf  h) lk_L_215 (rc2_of (ci := 9) rfl rfl) dL_law_272 rfl rfl (Nat.le_of_ble_eq_true rfl) (Nat.le_of_lt_succ (by omega)) (Nat.le_of_lt_succ (by omega)) (Nat.le_of_lt_succ (by omega)) ?_ ?_
      rotate_left
      · intro E I9_ h
        exact False.elim h
      intro x7 I8 h
      refine q_T_new hX hR nw_L_218 lk_L_220 dL_law_275 dL_law_278 dL_law_279 (Nat.le_of_ble_eq_true rfl) (Nat.le_of_lt_succ (by omega)) (Nat.le_of_lt_succ (by omega)) (Nat.le_of_lt_succ (by omega)) h ?_
      intro a9 I10 hra9 h
      refine q_ldcS hX (tx := "K") (code := 60) (by decide +kernel) dL_law_282 ?_
      refine q_T_appS hX hR hra9 (tx_c (a := 1000060) rfl) lk_L_223 dL_law_284 (Nat.le_of_ble_eq_true rfl) (Nat.le_of_lt_succ (by omega)) (Nat.le_of_lt_succ (by omega)) (Nat.le_of_lt_succ (by omega)) h ?_
      intro I11 h
      refine q_iload hX dL_law_287 rfl ?_
      refine q_T_appI hX hR hra9 lk_L_227 dL_law_289 (Nat.le_of_ble_eq_true rfl) (Nat.le_of_lt_succ (by omega)) (Nat.le_of_lt_succ (by omega)) (Nat.le_of_lt_succ (by omega)) h ?_
      intro I12 h
      refine q_ldcS hX (tx := " ") (code := 61) (by decide +kernel) dL_law_292 ?_
      refine q_T_appS hX hR hra9 (tx_c (a := 1000061) rfl) lk_L_223 dL_law_294 (Nat.le_of_ble_eq_true rfl) (Nat.le_of_lt_succ (by omega)) (Nat.le_of_lt_succ (by omega)) (Nat.le_of_lt_succ (by omega)) h ?_
      intro I13 h
      refine q_fload hX dL_law_297 rfl ?_
      refine q_SL_i hX hR hN hS (w_L_eighths hf  h) lk_L_203 dL_law_299 rfl rfl (Nat.le_of_ble_eq_true rfl) (Nat.le_of_lt_succ (by omega)) (Nat.le_of_lt_succ (by omega)) (Nat.le_of_lt_succ (by omega)) ?_
      intro x14 I15 h
      refine q_T_appI hX hR hra9 lk_L_227 dL_law_302 (Nat.le_of_ble_eq_true rfl) (Nat.le_of_lt_succ (by omega)) (Nat.le_of_lt_succ (by omega)) (Nat.le_of_lt_succ (by omega)) h ?_
      intro I16 h
      refine q_ldcS hX (tx := "/") (code := 62) (by decide +kernel) dL_law_305 ?_
      refine q_T_appS hX hR hra9 (tx_c (a := 1000062) rfl) lk_L_223 dL_law_307 (Nat.le_of_ble_eq_true rfl) (Nat.le_of_lt_succ (by omega)) (Nat.le_of_lt_succ (by omega)) (Nat.le_of_lt_succ (by omega)) h ?_
      intro I17 h
      refine q_aload_n hX dL_law_310 rfl ?_
      refine q_iload hX dL_law_311 rfl ?_
      refine q_W_fp hX hR (w_X8_capacity hf  h) lk_L_189 (rc2_of (ci := 9) rfl rfl) dL_law_313 rfl rfl (Nat.le_of_ble_eq_true rfl) (Nat.le_of_lt_succ (by omega)) (Nat.le_of_lt_succ (by omega)) (Nat.le_of_lt_succ (by omega)) ?_ ?_
      rotate_left
      · intro E h
        exact False.elim h
      intro x18 h
      refine q_SL_i hX hR hN hS (w_L_eighths hf  h) lk_L_203 dL_law_316 rfl rfl (Nat.le_of_ble_eq_true rfl) (Nat.le_of_lt_succ (by omega)) (Nat.le_of_lt_succ (by omega)) (Nat.le_of_lt_succ (by omega)) ?_
      intro x19 I20 h
      refine q_T_appI hX hR hra9 lk_L_227 dL_law_319 (Nat.le_of_ble_eq_true rfl) (Nat.le_of_lt_succ (by omega)) (Nat.le_of_lt_succ (by omega)) (Nat.le_of_lt_succ (by omega)) h ?_
      intro I21 h
      refine q_ldcS hX (tx := " ") (code := 61) (by decide +kernel) dL_law_322 ?_
      refine q_T_appS hX hR hra9 (tx_c (a := 1000061) rfl) lk_L_223 dL_law_324 (Nat.le_of_ble_eq_true rfl) (Nat.le_of_lt_succ (by omega)) (Nat.le_of_lt_succ (by omega)) (Nat.le_of_lt_succ (by omega)) h ?_
      intro I22 h
      refine q_iload hX dL_law_327 rfl ?_
      refine q_T_appI hX hR hra9 lk_L_227 dL_law_329 (Nat.le_of_ble_eq_true rfl) (Nat.le_of_lt_succ (by omega)) (Nat.le_of_lt_succ (by omega)) (Nat.le_of_lt_succ (by omega)) h ?_
      intro I23 h
      refine q_ldcS hX (tx := "h") (code := 63) (by decide +kernel) dL_law_332 ?_
      refine q_T_appS hX hR hra9 (tx_c (a := 1000063) rfl) lk_L_223 dL_law_334 (Nat.le_of_ble_eq_true rfl) (Nat.le_of_lt_succ (by omega)) (Nat.le_of_lt_succ (by omega)) (Nat.le_of_lt_succ (by omega)) h ?_
      intro I24 h
      refine q_iload hX dL_law_337 rfl ?_
      refine q_if_le hX dL_law_339 (tgt := 365) (by decide) (fun q25 => ?_) (fun q25 => ?_)
      · replace h := ite_t q25 h
        refine q_ldcS hX (tx := "") (code := 65) (by decide +kernel) dL_law_365 ?_
        exact q_dr (w_L_law_b367 hf hX hR hN hS hE  (r63 := r63) (s63 := s63) hx63  (Nat.le_of_lt_succ (by omega)) (Nat.le_of_lt_succ (by omega)) _ _ _ _ _ _ _ _ _ _ _ _ _ hra9 (tx_c (a := 1000065) rfl) h) ⟨Or.inl rfl, Or.inl rfl, Or.inl rfl, Or.inl rfl, Or.inl rfl, Or.inl rfl, Or.inl rfl, Or.inl rfl, Or.inl rfl, Or.inl rfl, Or.inl rfl, Or.inl rfl, Or.inr rfl, Or.inl rfl, Or.inr rfl, Or.inr rfl, Or.inr rfl, Or.inl rfl, Or.inl rfl, Or.inl rfl, Or.inl rfl, trivial⟩
      · replace h := ite_f q25 h
        refine q_T_new hX hR nw_L_218 lk_L_220 dL_law_342 dL_law_345 dL_law_346 (Nat.le_of_ble_eq_true rfl) (Nat.le_of_lt_succ (by omega)) (Nat.le_of_lt_succ (by omega)) (Nat.le_of_lt_succ (by omega)) h ?_
        intro a26 I27 hra26 h
        refine q_ldcS hX (tx := " b") (code := 64) (by decide +kernel) dL_law_349 ?_
        refine q_T_appS hX hR hra26 (tx_c (a := 1000064) rfl) lk_L_223 dL_law_351 (Nat.le_of_ble_eq_true rfl) (Nat.le_of_lt_succ (by omega)) (Nat.le_of_lt_succ (by omega)) (Nat.le_of_lt_succ (by omega)) h ?_
        intro I28 h
        refine q_iload hX dL_law_354 rfl ?_
        refine q_T_appI hX hR hra26 lk_L_227 dL_law_356 (Nat.le_of_ble_eq_true rfl) (Nat.le_of_lt_succ (by omega)) (Nat.le_of_lt_succ (by omega)) (Nat.le_of_lt_succ (by omega)) h ?_
        intro I29 h
        refine q_T_str hX hR hra26 lk_L_238 dL_law_359 (Nat.le_of_ble_eq_true rfl) (Nat.le_of_lt_succ (by omega)) (Nat.le_of_lt_succ (by omega)) (Nat.le_of_lt_succ (by omega)) h ?_
        intro x31 I30 hrx31 h
        refine q_goto hX dL_law_362 (tgt := 367) (by decide) ?_
        exact q_dr (w_L_law_b367 hf hX hR hN hS hE  (r63 := r63) (s63 := s63) hx63  (Nat.le_of_lt_succ (by omega)) (Nat.le_of_lt_succ (by omega)) _ _ _ _ _ _ _ _ _ _ _ _ _ hra9 (Or.inr hrx31) h) ⟨Or.inl rfl, Or.inl rfl, Or.inl rfl, Or.inl rfl, Or.inl rfl, Or.inl rfl, Or.inl rfl, Or.inl rfl, Or.inl rfl, Or.inl rfl, Or.inl rfl, Or.inl rfl, Or.inr rfl, Or.inl rfl, Or.inr rfl, Or.inr rfl, Or.inr rfl, Or.inl rfl, Or.inl rfl, Or.inl rfl, Or.inl rfl, trivial⟩
    · replace h := ite_f q6 h
      refine q_iconst hX dL_law_266 (v := (nI 0)) (by decide) ?_
      exact hE dL_law_267 (Nat.le_of_lt_succ (by omega)) (Nat.le_of_lt_succ (by omega)) h
set_option maxRecDepth 100000 in
set_option maxHeartbeats 4000000 in
theorem w_L_law_b63 {X : XT} {D : DT} {l : Launch} {L : LT} {xs : Nat → Int32} {nn : Nat} {K : Int32 → IT → Prop} {X502 : Int32 → Int32 → Int32 → Int32 → Int32 → UInt32 → UInt32 → UInt64 → Int32 → IT → Prop} (hf : l.stackTraces = false) (hX : OK X D cL_law "TeaHouseLaw" 21) (hR : Room2 X l D 14 730279 6904340) (hN : NCX X) (hS : ScrX X D nn xs) (hE : EndAt X D L K 730279 6904340) {r502 s502 : Nat} (hx502 : ∀ {c w : Nat}, c + r502 ≤ 730279 → w + s502 ≤ 6904340 → ∀ (v2 : Int32) (v3 : Int32) (v4 : Int32) (v5 : Int32) (v6 : Int32) (v7 : UInt32) (v8 : UInt32) (v9 : UInt64) (v11 : Int32) (I : IT), X502 v2 v3 v4 v5 v6 v7 v8 v9 v11 I → J2 X D 21 c w I L 502 [.ref 1000300, .ref 0, .int v2, .int v3, .int v4, .int v5, .int v6, .float v7, .float v8, .double v9, .retAddr 0, .int v11, .retAddr 0, .retAddr 0, .retAddr 0, .retAddr 0, .retAddr 0, .retAddr 0, .retAddr 0, .retAddr 0, .retAddr 0] []) : ∀ (n : Nat), ∀ {c w : Nat}, c + (n * 251 + 0 + r502) ≤ 730279 → w + (n * 9688 + 0 + s502) ≤ 6904340 → ∀ (v2 : Int32) (v3 : Int32) (v4 : Int32) (v5 : Int32) (v6 : Int32) (v7 : UInt32) (v8 : UInt32) (v9 : UInt64) (v11 : Int32) (I : IT), f_L_law_b63 xs nn X502 K n v2 v3 v4 v5 v6 v7 v8 v9 v11 I → J2 X D 21 c w I L 63 [.ref 1000300, .ref 0, .int v2, .int v3, .int v4, .int v5, .int v6, .float v7, .float v8, .double v9, .retAddr 0, .int v11, .retAddr 0, .retAddr 0, .retAddr 0, .retAddr 0, .retAddr 0, .retAddr 0, .retAddr 0, .retAddr 0, .retAddr 0] [] := by
  intro n
  induction n with
  | zero => intro c w hc hw v2 v3 v4 v5 v6 v7 v8 v9 v11 I h; exact False.elim h
  | succ n ih =>
    intro c w hc hw v2 v3 v4 v5 v6 v7 v8 v9 v11 I h
    rw [f_L_law_b63] at h
    refine q_iload hX dL_law_63 rfl ?_
    refine q_iload_n hX dL_law_65 rfl ?_
    refine q_icmp_ge hX dL_law_66 (tgt := 499) (by decide) (fun q1 => ?_) (fun q1 => ?_)
    · replace h := ite_t q1 h
      refine q_iconst hX dL_law_499 (v := (nI 0)) (by decide) ?_
      refine q_istore hX dL_law_500 (by decide) (ls' := [_, _, _, _, _, _, _, _, _, _, _, _, _, _, _, _, _, _, _, _, _]) rfl ?_
      exact q_dr (hx502 (Nat.le_of_lt_succ (by omega)) (Nat.le_of_lt_succ (by omega)) _ _ _ _ _ _ _ _ _ _  h) ⟨Or.inl rfl, Or.inl rfl, Or.inl rfl, Or.inl rfl, Or.inl rfl, Or.inl rfl, Or.inl rfl, Or.inl rfl, Or.inl rfl, Or.inl rfl, Or.inl rfl, Or.inl rfl, Or.inl rfl, Or.inl rfl, Or.inl rfl, Or.inl rfl, Or.inl rfl, Or.inl rfl, Or.inl rfl, Or.inl rfl, Or.inl rfl, trivial⟩
    · replace h := ite_f q1 h
      refine q_aload_n hX dL_law_69 rfl ?_
      refine q_iload hX dL_law_70 rfl ?_
      refine q_W_fp hX hR (w_X8_volume hf  h) lk_L_154 (rc2_of (ci := 9) rfl rfl) dL_law_72 rfl rfl (Nat.le_of_ble_eq_true rfl) (Nat.le_of_lt_succ (by omega)) (Nat.le_of_lt_succ (by omega)) (Nat.le_of_lt_succ (by omega)) ?_ ?_
      rotate_left
      · intro E h
        exact False.elim h
      intro x2 h
      refine q_fstore hX dL_law_75 (by decide) (ls' := [_, _, _, _, _, _, _, _, _, _, _, _, _, _, _, _, _, _, _, _, _]) rfl ?_
      refine q_aload_n hX dL_law_77 rfl ?_
      refine q_iload hX dL_law_78 rfl ?_
      refine q_W_fp hX hR (w_X8_temperature hf  h) lk_L_158 (rc2_of (ci := 9) rfl rfl) dL_law_80 rfl rfl (Nat.le_of_ble_eq_true rfl) (Nat.le_of_lt_succ (by omega)) (Nat.le_of_lt_succ (by omega)) (Nat.le_of_lt_succ (by omega)) ?_ ?_
      rotate_left
      · intro E h
        exact False.elim h
      intro x3 h
      refine q_fstore hX dL_law_83 (by decide) (ls' := [_, _, _, _, _, _, _, _, _, _, _, _, _, _, _, _, _, _, _, _, _]) rfl ?_
      refine q_aload_n hX dL_law_85 rfl ?_
      refine q_iload hX dL_law_86 rfl ?_
      refine q_W_ip hX hR (w_X8_burner hf  h) lk_L_186 (rc2_of (ci := 9) rfl rfl) dL_law_88 rfl rfl (Nat.le_of_ble_eq_true rfl) (Nat.le_of_lt_succ (by omega)) (Nat.le_of_lt_succ (by omega)) (Nat.le_of_lt_succ (by omega)) ?_ ?_
      rotate_left
      · intro E h
        exact False.elim h
      intro x4 h
      refine q_istore hX dL_law_91 (by decide) (ls' := [_, _, _, _, _, _, _, _, _, _, _, _, _, _, _, _, _, _, _, _, _]) rfl ?_
      refine q_fconst2 hX dL_law_93 ?_
      refine q_fload hX dL_law_94 rfl ?_
      obtain ⟨z5, h⟩ := h
      refine q_fmul hX dL_law_96 z5 ?_
      refine q_f2i hX dL_law_97 ?_
      replace h := bnd_e h
      refine q_istore hX dL_law_98 (by decide) (ls' := [_, _, _, _, _, _, _, _, _, _, _, _, _, _, _, _, _, _, _, _, _]) rfl ?_
      refine q_sipush hX dL_law_100 (v := (-30000)) (by decide) ?_
      refine q_istore hX dL_law_103 (by decide) (ls' := [_, _, _, _, _, _, _, _, _, _, _, _, _, _, _, _, _, _, _, _, _]) rfl ?_
      refine q_fload hX dL_law_105 rfl ?_
      refine q_fload hX dL_law_107 rfl ?_
      obtain ⟨z7, h⟩ := h
      refine q_fadd hX dL_law_109 z7 ?_
      refine q_fstore hX dL_law_110 (by decide) (ls' := [_, _, _, _, _, _, _, _, _, _, _, _, _, _, _, _, _, _, _, _, _]) rfl ?_
      refine q_dload hX dL_law_112 rfl ?_
      refine q_fload hX dL_law_114 rfl ?_
      obtain ⟨z8, h⟩ := h
      refine q_f2d hX dL_law_116 z8 ?_
      obtain ⟨z9, h⟩ := h
      refine q_dadd hX dL_law_117 z9 ?_
      refine q_dstore hX dL_law_118 (by decide) (ls' := [_, _, _, _, _, _, _, _, _, _, _, _, _, _, _, _, _, _, _, _, _]) rfl ?_
      refine q_fload hX dL_law_120 rfl ?_
      refine q_fconst0 hX dL_law_122 ?_
      refine q_fcmp hX dL_law_123 ?_
      refine q_if_lt hX dL_law_124 (tgt := 195) (by decide) (fun q10 => ?_) (fun q10 => ?_)
      · replace h := ite_t q10 h
        refine q_iconst hX dL_law_195 (v := (nI 0)) (by decide) ?_
        exact hE dL_law_196 (Nat.le_of_lt_succ (by omega)) (Nat.le_of_lt_succ (by omega)) h
      · replace h := ite_f q10 h
        refine q_fload hX dL_law_127 rfl ?_
        refine q_aload_n hX dL_law_129 rfl ?_
        refine q_iload hX dL_law_130 rfl ?_
        refine q_W_fp hX hR (w_X8_capacity hf  h) lk_L_189 (rc2_of (ci := 9) rfl rfl) dL_law_132 rfl rfl (Nat.le_of_ble_eq_true rfl) (Nat.le_of_lt_succ (by omega)) (Nat.le_of_lt_succ (by omega)) (Nat.le_of_lt_succ (by omega)) ?_ ?_
        rotate_left
        · intro E h
          exact False.elim h
        intro x11 h
        refine q_fcmp hX dL_law_135 ?_
        refine q_if_gt hX dL_law_136 (tgt := 195) (by decide) (fun q12 => ?_) (fun q12 => ?_)
        · replace h := ite_t q12 h
          refine q_iconst hX dL_law_195 (v := (nI 0)) (by decide) ?_
          exact hE dL_law_196 (Nat.le_of_lt_succ (by omega)) (Nat.le_of_lt_succ (by omega)) h
        · replace h := ite_f q12 h
          refine q_fload hX dL_law_139 rfl ?_
          refine q_ldcf hX kc_L_192 dL_law_141 ?_
          refine q_fcmp hX dL_law_143 ?_
          refine q_if_lt hX dL_law_144 (tgt := 195) (by decide) (fun q13 => ?_) (fun q13 => ?_)
          · replace h := ite_t q13 h
            refine q_iconst hX dL_law_195 (v := (nI 0)) (by decide) ?_
            exact hE dL_law_196 (Nat.le_of_lt_succ (by omega)) (Nat.le_of_lt_succ (by omega)) h
          · replace h := ite_f q13 h
            refine q_fload hX dL_law_147 rfl ?_
            refine q_ldcf hX kc_L_193 dL_law_149 ?_
            refine q_fcmp hX dL_law_151 ?_
            refine q_if_gt hX dL_law_152 (tgt := 195) (by decide) (fun q14 => ?_) (fun q14 => ?_)
            · replace h := ite_t q14 h
              refine q_iconst hX dL_law_195 (v := (nI 0)) (by decide) ?_
              exact hE dL_law_196 (Nat.le_of_lt_succ (by omega)) (Nat.le_of_lt_succ (by omega)) h
            · replace h := ite_f q14 h
              refine q_iload hX dL_law_155 rfl ?_
              refine q_if_lt hX dL_law_157 (tgt := 195) (by decide) (fun q15 => ?_) (fun q15 => ?_)
              · replace h := ite_t q15 h
                refine q_iconst hX dL_law_195 (v := (nI 0)) (by decide) ?_
                exact hE dL_law_196 (Nat.le_of_lt_succ (by omega)) (Nat.le_of_lt_succ (by omega)) h
              · replace h := ite_f q15 h
                refine q_iload hX dL_law_160 rfl ?_
                refine q_iconst hX dL_law_162 (v := (nI 5)) (by decide) ?_
                refine q_icmp_gt hX dL_law_163 (tgt := 195) (by decide) (fun q16 => ?_) (fun q16 => ?_)
                · replace h := ite_t q16 h
                  refine q_iconst hX dL_law_195 (v := (nI 0)) (by decide) ?_
                  exact hE dL_law_196 (Nat.le_of_lt_succ (by omega)) (Nat.le_of_lt_succ (by omega)) h
                · replace h := ite_f q16 h
                  refine q_aload_n hX dL_law_166 rfl ?_
                  refine q_iload hX dL_law_167 rfl ?_
                  refine q_W_ip hX hR (w_X8_temperatureBits hf  h) lk_L_194 (rc2_of (ci := 9) rfl rfl) dL_law_169 rfl rfl (Nat.le_of_ble_eq_true rfl) (Nat.le_of_lt_succ (by omega)) (Nat.le_of_lt_succ (by omega)) (Nat.le_of_lt_succ (by omega)) ?_ ?_
                  rotate_left
                  · intro E h
                    exact False.elim h
                  intro x17 h
                  refine q_fload hX dL_law_172 rfl ?_
                  refine q_S_ip hX hR (w_Jxf58ca_floatToIntBits_5c35a  h) lk_L_197 dL_law_174 rfl rfl (Nat.le_of_ble_eq_true rfl) (Nat.le_of_lt_succ (by omega)) (Nat.le_of_lt_succ (by omega)) (Nat.le_of_lt_succ (by omega)) ?_
                  intro x18 h
                  refine q_icmp_ne hX dL_law_177 (tgt := 195) (by decide) (fun q19 => ?_) (fun q19 => ?_)
                  · replace h := ite_f q19 h
                    refine q_iconst hX dL_law_195 (v := (nI 0)) (by decide) ?_
                    exact hE dL_law_196 (Nat.le_of_lt_succ (by omega)) (Nat.le_of_lt_succ (by omega)) h
                  · replace h := ite_t q19 h
                    refine q_fload hX dL_law_180 rfl ?_
                    refine q_SL_i hX hR hN hS (w_L_eighths hf  h) lk_L_203 dL_law_182 rfl rfl (Nat.le_of_ble_eq_true rfl) (Nat.le_of_lt_succ (by omega)) (Nat.le_of_lt_succ (by omega)) (Nat.le_of_lt_succ (by omega)) ?_
                    intro x20 I21 h
                    refine q_i2f hX dL_law_185 ?_
                    refine q_ldcf hX kc_L_146 dL_law_186 ?_
                    obtain ⟨z22, h⟩ := h
                    refine q_fdiv hX dL_law_188 z22 ?_
                    refine q_fload hX dL_law_189 rfl ?_
                    refine q_fcmp hX dL_law_191 ?_
                    refine q_if_eq hX dL_law_192 (tgt := 197) (by decide) (fun q23 => ?_) (fun q23 => ?_)
                    · replace h := ite_t q23 h
                      refine q_fload hX dL_law_197 rfl ?_
                      refine q_fconst0 hX dL_law_199 ?_
                      refine q_fcmp hX dL_law_200 ?_
                      refine q_if_le hX dL_law_201 (tgt := 244) (by decide) (fun q24 => ?_) (fun q24 => ?_)
                      · replace h := ite_t q24 h
                        exact q_dr (w_L_law_b244 hf hX hR hN hS hE  (r63 := (n * 251 + 0 + r502)) (s63 := (n * 9688 + 0 + s502)) (fun {_ _} hc_ hw_ _ _ _ _ _ _ _ _ _ _ h => ih (Nat.le_of_lt_succ (by omega)) (Nat.le_of_lt_succ (by omega)) _ _ _ _ _ _ _ _ _ _  h)  (Nat.le_of_lt_succ (by omega)) (Nat.le_of_lt_succ (by omega)) _ _ _ _ _ _ _ _ _ _ _ _ _ _  h) ⟨Or.inl rfl, Or.inl rfl, Or.inl rfl, Or.inl rfl, Or.inl rfl, Or.inl rfl, Or.inl rfl, Or.inl rfl, Or.inl rfl, Or.inl rfl, Or.inl rfl, Or.inl rfl, Or.inl rfl, Or.inr rfl, Or.inl rfl, Or.inl rfl, Or.inl rfl, Or.inl rfl, Or.inl rfl, Or.inl rfl, Or.inl rfl, trivial⟩
                      · replace h := ite_f q24 h
                        refine q_iload hX dL_law_204 rfl ?_
                        refine q_if_le hX dL_law_206 (tgt := 244) (by decide) (fun q25 => ?_) (fun q25 => ?_)
                        · replace h := ite_t q25 h
                          exact q_dr (w_L_law_b244 hf hX hR hN hS hE  (r63 := (n * 251 + 0 + r502)) (s63 := (n * 9688 + 0 + s502)) (fun {_ _} hc_ hw_ _ _ _ _ _ _ _ _ _ _ h => ih (Nat.le_of_lt_succ (by omega)) (Nat.le_of_lt_succ (by omega)) _ _ _ _ _ _ _ _ _ _  h)  (Nat.le_of_lt_succ (by omega)) (Nat.le_of_lt_succ (by omega)) _ _ _ _ _ _ _ _ _ _ _ _ _ _  h) ⟨Or.inl rfl, Or.inl rfl, Or.inl rfl, Or.inl rfl, Or.inl rfl, Or.inl rfl, Or.inl rfl, Or.inl rfl, Or.inl rfl, Or.inl rfl, Or.inl rfl, Or.inl rfl, Or.inl rfl, Or.inr rfl, Or.inl rfl, Or.inl rfl, Or.inl rfl, Or.inl rfl, Or.inl rfl, Or.inl rfl, Or.inl rfl, trivial⟩
                        · replace h := ite_f q25 h
                          refine q_iconst hX dL_law_209 (v := (nI 0)) (by decide) ?_
                          refine q_istore hX dL_law_210 (by decide) (ls' := [_, _, _, _, _, _, _, _, _, _, _, _, _, _, _, _, _, _, _, _, _]) rfl ?_
                          refine q_iload hX dL_law_212 rfl ?_
                          refine q_istore hX dL_law_214 (by decide) (ls' := [_, _, _, _, _, _, _, _, _, _, _, _, _, _, _, _, _, _, _, _, _]) rfl ?_
                          exact q_dr (w_L_law_b216 hf hX hR hN hS hE  (r244 := (246 + (n * 251 + 0 + r502))) (s244 := (9658 + (n * 9688 + 0 + s502))) (fun {_ _} hc_ hw_ _ _ _ _ _ _ _ _ _ _ _ _ _ _ h => w_L_law_b244 hf hX hR hN hS hE  (r63 := (n * 251 + 0 + r502)) (s63 := (n * 9688 + 0 + s502)) (fun {_ _} hc_ hw_ _ _ _ _ _ _ _ _ _ _ h => ih (Nat.le_of_lt_succ (by omega)) (Nat.le_of_lt_succ (by omega)) _ _ _ _ _ _ _ _ _ _  h)  (Nat.le_of_lt_succ (by omega)) (Nat.le_of_lt_succ (by omega)) _ _ _ _ _ _ _ _ _ _ _ _ _ _  h) _  (Nat.le_of_lt_succ (by omega)) (Nat.le_of_lt_succ (by omega)) _ _ _ _ _ _ _ _ _ _ _ _ _ _ _  h) ⟨Or.inl rfl, Or.inl rfl, Or.inl rfl, Or.inl rfl, Or.inl rfl, Or.inl rfl, Or.inl rfl, Or.inl rfl, Or.inl rfl, Or.inl rfl, Or.inl rfl, Or.inl rfl, Or.inl rfl, Or.inr rfl, Or.inl rfl, Or.inl rfl, Or.inl rfl, Or.inl rfl, Or.inl rfl, Or.inl rfl, Or.inl rfl, trivial⟩
                    · replace h := ite_f q23 h
                      refine q_iconst hX dL_law_195 (v := (nI 0)) (by decide) ?_
                      exact hE dL_law_196 (Nat.le_of_lt_succ (by omega)) (Nat.le_of_lt_succ (by omega)) h
set_option maxRecDepth 100000 in
set_option maxHeartbeats 4000000 in
theorem w_L_law_b606 {X : XT} {D : DT} {l : Launch} {L : LT} {xs : Nat → Int32} {nn : Nat} {K : Int32 → IT → Prop} {X502 : Int32 → Int32 → Int32 → Int32 → Int32 → UInt32 → UInt32 → UInt64 → Int32 → IT → Prop} (hf : l.stackTraces = false) (hX : OK X D cL_law "TeaHouseLaw" 21) (hR : Room2 X l D 14 730279 6904340) (hN : NCX X) (hS : ScrX X D nn xs) (hE : EndAt X D L K 730279 6904340) {r502 s502 : Nat} (hx502 : ∀ {c w : Nat}, c + r502 ≤ 730279 → w + s502 ≤ 6904340 → ∀ (v2 : Int32) (v3 : Int32) (v4 : Int32) (v5 : Int32) (v6 : Int32) (v7 : UInt32) (v8 : UInt32) (v9 : UInt64) (v11 : Int32) (I : IT), X502 v2 v3 v4 v5 v6 v7 v8 v9 v11 I → J2 X D 21 c w I L 502 [.ref 1000300, .ref 0, .int v2, .int v3, .int v4, .int v5, .int v6, .float v7, .float v8, .double v9, .retAddr 0, .int v11, .retAddr 0, .retAddr 0, .retAddr 0, .retAddr 0, .retAddr 0, .retAddr 0, .retAddr 0, .retAddr 0, .retAddr 0] []) : ∀ {c w : Nat}, c + (2 + r502) ≤ 730279 → w + (12 + s502) ≤ 6904340 → ∀ (v2 : Int32) (v3 : Int32) (v4 : Int32) (v5 : Int32) (v6 : Int32) (v7 : UInt32) (v8 : UInt32) (v9 : UInt64) (v11 : Int32) (v12 : Int32) (s0 : Int32) (s1 : Int32) (I : IT), isZ s0 → isC s0 → isZ s1 → isC s1 → f_L_law_b606 xs nn X502 K v2 v3 v4 v5 v6 v7 v8 v9 v11 v12 s0 s1 I → J2 X D 21 c w I L 606 [.ref 1000300, .ref 0, .int v2, .int v3, .int v4, .int v5, .int v6, .float v7, .float v8, .double v9, .retAddr 0, .int v11, .int v12, .retAddr 0, .retAddr 0, .retAddr 0, .retAddr 0, .retAddr 0, .retAddr 0, .retAddr 0, .retAddr 0] [.int s1, .int s0] := by
  intro c w hc hw v2 v3 v4 v5 v6 v7 v8 v9 v11 v12 s0 s1 I hzs0 hcs0 hzs1 hcs1 h
  rw [f_L_law_b606] at h
  refine q_icmp_ne hX dL_law_606 (tgt := 620) (by decide) (fun q1 => ?_) (fun q1 => ?_)
  · replace h := ite_f q1 h
    refine q_iconst hX dL_law_620 (v := (nI 0)) (by decide) ?_
    exact hE dL_law_621 (Nat.le_of_lt_succ (by omega)) (Nat.le_of_lt_succ (by omega)) h
  · replace h := ite_t q1 h
    refine q_aload_n hX dL_law_609 rfl ?_
    refine q_iload hX dL_law_610 rfl ?_
    refine q_SLw_i hX hR hN hS (w_L_minutesUntilSuitable hf  h) lk_LW_274 dL_law_612 rfl rfl (Nat.le_of_ble_eq_true rfl) (Nat.le_of_lt_succ (by omega)) (Nat.le_of_lt_succ (by omega)) (Nat.le_of_lt_succ (by omega)) ?_
    intro x2 I3 h
    refine q_bipush hX dL_law_615 (v := (nI 120)) (by decide) ?_
    refine q_icmp_le hX dL_law_617 (tgt := 622) (by decide) (fun q4 => ?_) (fun q4 => ?_)
    · replace h := ite_t q4 h
      replace h := bnd_e h
      refine q_iinc hX dL_law_622 (by decide) rfl (v := _ + nI 1) (ls' := [_, _, _, _, _, _, _, _, _, _, _, _, _, _, _, _, _, _, _, _, _]) rfl rfl ?_
      refine q_goto hX dL_law_625 (tgt := 502) (by decide) ?_
      exact q_dr (hx502 (Nat.le_of_lt_succ (by omega)) (Nat.le_of_lt_succ (by omega)) _ _ _ _ _ _ _ _ _ _  h) ⟨Or.inl rfl, Or.inl rfl, Or.inl rfl, Or.inl rfl, Or.inl rfl, Or.inl rfl, Or.inl rfl, Or.inl rfl, Or.inl rfl, Or.inl rfl, Or.inl rfl, Or.inl rfl, Or.inr rfl, Or.inl rfl, Or.inl rfl, Or.inl rfl, Or.inl rfl, Or.inl rfl, Or.inl rfl, Or.inl rfl, Or.inl rfl, trivial⟩
    · replace h := ite_f q4 h
      refine q_iconst hX dL_law_620 (v := (nI 0)) (by decide) ?_
      exact hE dL_law_621 (Nat.le_of_lt_succ (by omega)) (Nat.le_of_lt_succ (by omega)) h
set_option maxRecDepth 100000 in
set_option maxHeartbeats 4000000 in
theorem w_L_law_b589 {X : XT} {D : DT} {l : Launch} {L : LT} {xs : Nat → Int32} {nn : Nat} {K : Int32 → IT → Prop} {X502 : Int32 → Int32 → Int32 → Int32 → Int32 → UInt32 → UInt32 → UInt64 → Int32 → IT → Prop} (hf : l.stackTraces = false) (hX : OK X D cL_law "TeaHouseLaw" 21) (hR : Room2 X l D 14 730279 6904340) (hN : NCX X) (hS : ScrX X D nn xs) (hE : EndAt X D L K 730279 6904340) {r502 s502 : Nat} (hx502 : ∀ {c w : Nat}, c + r502 ≤ 730279 → w + s502 ≤ 6904340 → ∀ (v2 : Int32) (v3 : Int32) (v4 : Int32) (v5 : Int32) (v6 : Int32) (v7 : UInt32) (v8 : UInt32) (v9 : UInt64) (v11 : Int32) (I : IT), X502 v2 v3 v4 v5 v6 v7 v8 v9 v11 I → J2 X D 21 c w I L 502 [.ref 1000300, .ref 0, .int v2, .int v3, .int v4, .int v5, .int v6, .float v7, .float v8, .double v9, .retAddr 0, .int v11, .retAddr 0, .retAddr 0, .retAddr 0, .retAddr 0, .retAddr 0, .retAddr 0, .retAddr 0, .retAddr 0, .retAddr 0] []) : ∀ {c w : Nat}, c + (4 + r502) ≤ 730279 → w + (24 + s502) ≤ 6904340 → ∀ (v2 : Int32) (v3 : Int32) (v4 : Int32) (v5 : Int32) (v6 : Int32) (v7 : UInt32) (v8 : UInt32) (v9 : UInt64) (v11 : Int32) (v12 : Int32) (s0 : Int32) (I : IT), isZ s0 → isC s0 → f_L_law_b589 xs nn X502 K v2 v3 v4 v5 v6 v7 v8 v9 v11 v12 s0 I → J2 X D 21 c w I L 589 [.ref 1000300, .ref 0, .int v2, .int v3, .int v4, .int v5, .int v6, .float v7, .float v8, .double v9, .retAddr 0, .int v11, .int v12, .retAddr 0, .retAddr 0, .retAddr 0, .retAddr 0, .retAddr 0, .retAddr 0, .retAddr 0, .retAddr 0] [.int s0] := by
  intro c w hc hw v2 v3 v4 v5 v6 v7 v8 v9 v11 v12 s0 I hzs0 hcs0 h
  rw [f_L_law_b589] at h
  refine q_aload_n hX dL_law_589 rfl ?_
  refine q_iload hX dL_law_590 rfl ?_
  refine q_SLw_i hX hR hN hS (w_L_kettleFor hf  h) lk_LW_266 dL_law_592 rfl rfl (Nat.le_of_ble_eq_true rfl) (Nat.le_of_lt_succ (by omega)) (Nat.le_of_lt_succ (by omega)) (Nat.le_of_lt_succ (by omega)) ?_
  intro x1 I2 h
  refine q_sipush hX dL_law_595 (v := (-30000)) (by decide) ?_
  refine q_icmp_eq hX dL_law_598 (tgt := 605) (by decide) (fun q3 => ?_) (fun q3 => ?_)
  · replace h := ite_t q3 h
    refine q_iconst hX dL_law_605 (v := (nI 0)) (by decide) ?_
    exact q_dr (w_L_law_b606 hf hX hR hN hS hE  (r502 := r502) (s502 := s502) hx502  (Nat.le_of_lt_succ (by omega)) (Nat.le_of_lt_succ (by omega)) _ _ _ _ _ _ _ _ _ _ _ _ _ hzs0 hcs0 (Or.inl rfl) (isC_n (by decide)) h) ⟨Or.inl rfl, Or.inl rfl, Or.inl rfl, Or.inl rfl, Or.inl rfl, Or.inl rfl, Or.inl rfl, Or.inl rfl, Or.inl rfl, Or.inl rfl, Or.inl rfl, Or.inl rfl, Or.inl rfl, Or.inl rfl, Or.inl rfl, Or.inl rfl, Or.inl rfl, Or.inl rfl, Or.inl rfl, Or.inl rfl, Or.inl rfl, trivial⟩
  · replace h := ite_f q3 h
    refine q_iconst hX dL_law_601 (v := (nI 1)) (by decide) ?_
    refine q_goto hX dL_law_602 (tgt := 606) (by decide) ?_
    exact q_dr (w_L_law_b606 hf hX hR hN hS hE  (r502 := r502) (s502 := s502) hx502  (Nat.le_of_lt_succ (by omega)) (Nat.le_of_lt_succ (by omega)) _ _ _ _ _ _ _ _ _ _ _ _ _ hzs0 hcs0 (Or.inr rfl) (isC_n (by decide)) h) ⟨Or.inl rfl, Or.inl rfl, Or.inl rfl, Or.inl rfl, Or.inl rfl, Or.inl rfl, Or.inl rfl, Or.inl rfl, Or.inl rfl, Or.inl rfl, Or.inl rfl, Or.inl rfl, Or.inl rfl, Or.inl rfl, Or.inl rfl, Or.inl rfl, Or.inl rfl, Or.inl rfl, Or.inl rfl, Or.inl rfl, Or.inl rfl, trivial⟩
set_option maxRecDepth 100000 in
set_option maxHeartbeats 4000000 in
theorem w_L_law_b502 {X : XT} {D : DT} {l : Launch} {L : LT} {xs : Nat → Int32} {nn : Nat} {K : Int32 → IT → Prop} {X668 : Int32 → Int32 → Int32 → Int32 → Int32 → UInt32 → UInt32 → UInt64 → IT → Prop} {X674 : Int32 → Int32 → Int32 → Int32 → Int32 → UInt32 → UInt32 → UInt64 → Int32 → Int32 → IT → Prop} (hf : l.stackTraces = false) (hX : OK X D cL_law "TeaHouseLaw" 21) (hR : Room2 X l D 14 730279 6904340) (hN : NCX X) (hS : ScrX X D nn xs) (hE : EndAt X D L K 730279 6904340) {r668 s668 : Nat} (hx668 : ∀ {c w : Nat}, c + r668 ≤ 730279 → w + s668 ≤ 6904340 → ∀ (v2 : Int32) (v3 : Int32) (v4 : Int32) (v5 : Int32) (v6 : Int32) (v7 : UInt32) (v8 : UInt32) (v9 : UInt64) (I : IT), X668 v2 v3 v4 v5 v6 v7 v8 v9 I → J2 X D 21 c w I L 668 [.ref 1000300, .ref 0, .int v2, .int v3, .int v4, .int v5, .int v6, .float v7, .float v8, .double v9, .retAddr 0, .retAddr 0, .retAddr 0, .retAddr 0, .retAddr 0, .retAddr 0, .retAddr 0, .retAddr 0, .retAddr 0, .retAddr 0, .retAddr 0] []) {r674 s674 : Nat} (hx674 : ∀ {c w : Nat}, c + r674 ≤ 730279 → w + s674 ≤ 6904340 → ∀ (v2 : Int32) (v3 : Int32) (v4 : Int32) (v5 : Int32) (v6 : Int32) (v7 : UInt32) (v8 : UInt32) (v9 : UInt64) (v11 : Int32) (v12 : Int32) (I : IT), isZ v11 → isC v11 → X674 v2 v3 v4 v5 v6 v7 v8 v9 v11 v12 I → J2 X D 21 c w I L 674 [.ref 1000300, .ref 0, .int v2, .int v3, .int v4, .int v5, .int v6, .float v7, .float v8, .double v9, .retAddr 0, .int v11, .int v12, .retAddr 0, .retAddr 0, .retAddr 0, .retAddr 0, .retAddr 0, .retAddr 0, .retAddr 0, .retAddr 0] []) : ∀ (n : Nat), ∀ {c w : Nat}, c + (n * 656 + 5 + (max (r668) (r674))) ≤ 730279 → w + (n * 7076 + 30 + (max (s668) (s674))) ≤ 6904340 → ∀ (v2 : Int32) (v3 : Int32) (v4 : Int32) (v5 : Int32) (v6 : Int32) (v7 : UInt32) (v8 : UInt32) (v9 : UInt64) (v11 : Int32) (I : IT), f_L_law_b502 xs nn X668 X674 K n v2 v3 v4 v5 v6 v7 v8 v9 v11 I → J2 X D 21 c w I L 502 [.ref 1000300, .ref 0, .int v2, .int v3, .int v4, .int v5, .int v6, .float v7, .float v8, .double v9, .retAddr 0, .int v11, .retAddr 0, .retAddr 0, .retAddr 0, .retAddr 0, .retAddr 0, .retAddr 0, .retAddr 0, .retAddr 0, .retAddr 0] [] := by
  intro n
  induction n with
  | zero => intro c w hc hw v2 v3 v4 v5 v6 v7 v8 v9 v11 I h; exact False.elim h
  | succ n ih =>
    intro c w hc hw v2 v3 v4 v5 v6 v7 v8 v9 v11 I h
    rw [f_L_law_b502] at h
    refine q_iload hX dL_law_502 rfl ?_
    refine q_iload hX dL_law_504 rfl ?_
    refine q_icmp_ge hX dL_law_506 (tgt := 628) (by decide) (fun q1 => ?_) (fun q1 => ?_)
    · replace h := ite_t q1 h
      refine q_iload hX dL_law_628 rfl ?_
      refine q_if_le hX dL_law_630 (tgt := 668) (by decide) (fun q2 => ?_) (fun q2 => ?_)
      · replace h := ite_t q2 h
        exact q_dr (hx668 (Nat.le_of_lt_succ (by omega)) (Nat.le_of_lt_succ (by omega)) _ _ _ _ _ _ _ _ _  h) ⟨Or.inl rfl, Or.inl rfl, Or.inl rfl, Or.inl rfl, Or.inl rfl, Or.inl rfl, Or.inl rfl, Or.inl rfl, Or.inl rfl, Or.inl rfl, Or.inl rfl, Or.inr rfl, Or.inl rfl, Or.inl rfl, Or.inl rfl, Or.inl rfl, Or.inl rfl, Or.inl rfl, Or.inl rfl, Or.inl rfl, Or.inl rfl, trivial⟩
      · replace h := ite_f q2 h
        refine q_aload_n hX dL_law_633 rfl ?_
        refine q_aload_n hX dL_law_634 rfl ?_
        refine q_iconst hX dL_law_635 (v := (nI 0)) (by decide) ?_
        refine q_W_ip hX hR (w_X8_orderAt hf  h) lk_L_78 (rc2_of (ci := 9) rfl rfl) dL_law_636 rfl rfl (Nat.le_of_ble_eq_true rfl) (Nat.le_of_lt_succ (by omega)) (Nat.le_of_lt_succ (by omega)) (Nat.le_of_lt_succ (by omega)) ?_ ?_
        rotate_left
        · intro E h
          exact False.elim h
        intro x3 h
        refine q_SLw_i hX hR hN hS (w_L_kettleFor hf  h) lk_LW_266 dL_law_639 rfl rfl (Nat.le_of_ble_eq_true rfl) (Nat.le_of_lt_succ (by omega)) (Nat.le_of_lt_succ (by omega)) (Nat.le_of_lt_succ (by omega)) ?_
        intro x4 I5 h
        refine q_sipush hX dL_law_642 (v := (-30000)) (by decide) ?_
        refine q_icmp_eq hX dL_law_645 (tgt := 668) (by decide) (fun q6 => ?_) (fun q6 => ?_)
        · replace h := ite_t q6 h
          exact q_dr (hx668 (Nat.le_of_lt_succ (by omega)) (Nat.le_of_lt_succ (by omega)) _ _ _ _ _ _ _ _ _  h) ⟨Or.inl rfl, Or.inl rfl, Or.inl rfl, Or.inl rfl, Or.inl rfl, Or.inl rfl, Or.inl rfl, Or.inl rfl, Or.inl rfl, Or.inl rfl, Or.inl rfl, Or.inr rfl, Or.inl rfl, Or.inl rfl, Or.inl rfl, Or.inl rfl, Or.inl rfl, Or.inl rfl, Or.inl rfl, Or.inl rfl, Or.inl rfl, trivial⟩
        · replace h := ite_f q6 h
          refine q_aload_n hX dL_law_648 rfl ?_
          refine q_V_ip hX hR (w_X8_cleanCups  h) lk_L_276 (rc2_of (ci := 9) rfl rfl) dL_law_649 rfl rfl (Nat.le_of_ble_eq_true rfl) (Nat.le_of_lt_succ (by omega)) (Nat.le_of_lt_succ (by omega)) (Nat.le_of_lt_succ (by omega)) ?_
          intro x7 h
          refine q_aload_n hX dL_law_652 rfl ?_
          refine q_aload_n hX dL_law_653 rfl ?_
          refine q_iconst hX dL_law_654 (v := (nI 0)) (by decide) ?_
          refine q_W_ip hX hR (w_X8_orderAt hf  h) lk_L_78 (rc2_of (ci := 9) rfl rfl) dL_law_655 rfl rfl (Nat.le_of_ble_eq_true rfl) (Nat.le_of_lt_succ (by omega)) (Nat.le_of_lt_succ (by omega)) (Nat.le_of_lt_succ (by omega)) ?_ ?_
          rotate_left
          · intro E h
            exact False.elim h
          intro x8 h
          refine q_W_ip hX hR (w_X8_cupsOf hf  h) lk_L_260 (rc2_of (ci := 9) rfl rfl) dL_law_658 rfl rfl (Nat.le_of_ble_eq_true rfl) (Nat.le_of_lt_succ (by omega)) (Nat.le_of_lt_succ (by omega)) (Nat.le_of_lt_succ (by omega)) ?_ ?_
          rotate_left
          · intro E h
            exact False.elim h
          intro x9 h
          refine q_icmp_lt hX dL_law_661 (tgt := 668) (by decide) (fun q10 => ?_) (fun q10 => ?_)
          · replace h := ite_t q10 h
            exact q_dr (hx668 (Nat.le_of_lt_succ (by omega)) (Nat.le_of_lt_succ (by omega)) _ _ _ _ _ _ _ _ _  h) ⟨Or.inl rfl, Or.inl rfl, Or.inl rfl, Or.inl rfl, Or.inl rfl, Or.inl rfl, Or.inl rfl, Or.inl rfl, Or.inl rfl, Or.inl rfl, Or.inl rfl, Or.inr rfl, Or.inl rfl, Or.inl rfl, Or.inl rfl, Or.inl rfl, Or.inl rfl, Or.inl rfl, Or.inl rfl, Or.inl rfl, Or.inl rfl, trivial⟩
          · replace h := ite_f q10 h
            refine q_iconst hX dL_law_664 (v := (nI 1)) (by decide) ?_
            refine q_goto hX dL_law_665 (tgt := 669) (by decide) ?_
            refine q_istore hX dL_law_669 (by decide) (ls' := [_, _, _, _, _, _, _, _, _, _, _, _, _, _, _, _, _, _, _, _, _]) rfl ?_
            refine q_iconst hX dL_law_671 (v := (nI 0)) (by decide) ?_
            refine q_istore hX dL_law_672 (by decide) (ls' := [_, _, _, _, _, _, _, _, _, _, _, _, _, _, _, _, _, _, _, _, _]) rfl ?_
            exact q_dr (hx674 (Nat.le_of_lt_succ (by omega)) (Nat.le_of_lt_succ (by omega)) _ _ _ _ _ _ _ _ _ _ _ (Or.inr rfl) (isC_n (by decide)) h) ⟨Or.inl rfl, Or.inl rfl, Or.inl rfl, Or.inl rfl, Or.inl rfl, Or.inl rfl, Or.inl rfl, Or.inl rfl, Or.inl rfl, Or.inl rfl, Or.inl rfl, Or.inl rfl, Or.inl rfl, Or.inl rfl, Or.inl rfl, Or.inl rfl, Or.inl rfl, Or.inl rfl, Or.inl rfl, Or.inl rfl, Or.inl rfl, trivial⟩
    · replace h := ite_f q1 h
      refine q_aload_n hX dL_law_509 rfl ?_
      refine q_iload hX dL_law_510 rfl ?_
      refine q_W_ip hX hR (w_X8_orderAt hf  h) lk_L_78 (rc2_of (ci := 9) rfl rfl) dL_law_512 rfl rfl (Nat.le_of_ble_eq_true rfl) (Nat.le_of_lt_succ (by omega)) (Nat.le_of_lt_succ (by omega)) (Nat.le_of_lt_succ (by omega)) ?_ ?_
      rotate_left
      · intro E h
        exact False.elim h
      intro x11 h
      refine q_istore hX dL_law_515 (by decide) (ls' := [_, _, _, _, _, _, _, _, _, _, _, _, _, _, _, _, _, _, _, _, _]) rfl ?_
      refine q_aload_n hX dL_law_517 rfl ?_
      refine q_iload hX dL_law_518 rfl ?_
      refine q_W_ip hX hR (w_X8_positionOf hf  h) lk_L_254 (rc2_of (ci := 9) rfl rfl) dL_law_520 rfl rfl (Nat.le_of_ble_eq_true rfl) (Nat.le_of_lt_succ (by omega)) (Nat.le_of_lt_succ (by omega)) (Nat.le_of_lt_succ (by omega)) ?_ ?_
      rotate_left
      · intro E h
        exact False.elim h
      intro x12 h
      refine q_iload hX dL_law_523 rfl ?_
      refine q_icmp_ne hX dL_law_525 (tgt := 620) (by decide) (fun q13 => ?_) (fun q13 => ?_)
      · replace h := ite_f q13 h
        refine q_iconst hX dL_law_620 (v := (nI 0)) (by decide) ?_
        exact hE dL_law_621 (Nat.le_of_lt_succ (by omega)) (Nat.le_of_lt_succ (by omega)) h
      · replace h := ite_t q13 h
        refine q_aload_n hX dL_law_528 rfl ?_
        refine q_iload hX dL_law_529 rfl ?_
        refine q_W_fp hX hR (w_X8_priceOf hf  h) lk_L_257 (rc2_of (ci := 9) rfl rfl) dL_law_531 rfl rfl (Nat.le_of_ble_eq_true rfl) (Nat.le_of_lt_succ (by omega)) (Nat.le_of_lt_succ (by omega)) (Nat.le_of_lt_succ (by omega)) ?_ ?_
        rotate_left
        · intro E h
          exact False.elim h
        intro x14 h
        refine q_aload_n hX dL_law_534 rfl ?_
        refine q_iload hX dL_law_535 rfl ?_
        refine q_W_ip hX hR (w_X8_cupsOf hf  h) lk_L_260 (rc2_of (ci := 9) rfl rfl) dL_law_537 rfl rfl (Nat.le_of_ble_eq_true rfl) (Nat.le_of_lt_succ (by omega)) (Nat.le_of_lt_succ (by omega)) (Nat.le_of_lt_succ (by omega)) ?_ ?_
        rotate_left
        · intro E h
          exact False.elim h
        intro x15 h
        refine q_i2f hX dL_law_540 ?_
        refine q_aload_n hX dL_law_541 rfl ?_
        refine q_V_fp hX hR (w_X8_cupPrice  h) lk_L_263 (rc2_of (ci := 9) rfl rfl) dL_law_542 rfl rfl (Nat.le_of_ble_eq_true rfl) (Nat.le_of_lt_succ (by omega)) (Nat.le_of_lt_succ (by omega)) (Nat.le_of_lt_succ (by omega)) ?_
        intro x16 h
        obtain ⟨z17, h⟩ := h
        refine q_fmul hX dL_law_545 z17 ?_
        refine q_fcmp hX dL_law_546 ?_
        refine q_if_ne hX dL_law_547 (tgt := 620) (by decide) (fun q18 => ?_) (fun q18 => ?_)
        · replace h := ite_f q18 h
          refine q_iconst hX dL_law_620 (v := (nI 0)) (by decide) ?_
          exact hE dL_law_621 (Nat.le_of_lt_succ (by omega)) (Nat.le_of_lt_succ (by omega)) h
        · replace h := ite_t q18 h
          refine q_aload_n hX dL_law_550 rfl ?_
          refine q_iload hX dL_law_551 rfl ?_
          refine q_SLw_i hX hR hN hS (w_L_kettleFor hf  h) lk_LW_266 dL_law_553 rfl rfl (Nat.le_of_ble_eq_true rfl) (Nat.le_of_lt_succ (by omega)) (Nat.le_of_lt_succ (by omega)) (Nat.le_of_lt_succ (by omega)) ?_
          intro x19 I20 h
          refine q_aload_n hX dL_law_556 rfl ?_
          refine q_aload_n hX dL_law_557 rfl ?_
          refine q_iload hX dL_law_558 rfl ?_
          refine q_W_ip hX hR (w_X8_cupsOf hf  h) lk_L_260 (rc2_of (ci := 9) rfl rfl) dL_law_560 rfl rfl (Nat.le_of_ble_eq_true rfl) (Nat.le_of_lt_succ (by omega)) (Nat.le_of_lt_succ (by omega)) (Nat.le_of_lt_succ (by omega)) ?_ ?_
          rotate_left
          · intro E h
            exact False.elim h
          intro x21 h
          refine q_aload_n hX dL_law_563 rfl ?_
          refine q_iload hX dL_law_564 rfl ?_
          refine q_SL_i hX hR hN hS (w_L_least hf  h) lk_L_268 dL_law_566 rfl rfl (Nat.le_of_ble_eq_true rfl) (Nat.le_of_lt_succ (by omega)) (Nat.le_of_lt_succ (by omega)) (Nat.le_of_lt_succ (by omega)) ?_
          intro x22 I23 h
          refine q_SL_i hX hR hN hS (w_L_pours hf  h) lk_L_271 dL_law_569 rfl rfl (Nat.le_of_ble_eq_true rfl) (Nat.le_of_lt_succ (by omega)) (Nat.le_of_lt_succ (by omega)) (Nat.le_of_lt_succ (by omega)) ?_
          intro x24 I25 h
          refine q_icmp_ne hX dL_law_572 (tgt := 620) (by decide) (fun q26 => ?_) (fun q26 => ?_)
          · replace h := ite_f q26 h
            refine q_iconst hX dL_law_620 (v := (nI 0)) (by decide) ?_
            exact hE dL_law_621 (Nat.le_of_lt_succ (by omega)) (Nat.le_of_lt_succ (by omega)) h
          · replace h := ite_t q26 h
            refine q_aload_n hX dL_law_575 rfl ?_
            refine q_iload hX dL_law_576 rfl ?_
            refine q_SLw_i hX hR hN hS (w_L_minutesUntilSuitable hf  h) lk_LW_274 dL_law_578 rfl rfl (Nat.le_of_ble_eq_true rfl) (Nat.le_of_lt_succ (by omega)) (Nat.le_of_lt_succ (by omega)) (Nat.le_of_lt_succ (by omega)) ?_
            intro x27 I28 h
            refine q_if_ne hX dL_law_581 (tgt := 588) (by decide) (fun q29 => ?_) (fun q29 => ?_)
            · replace h := ite_f q29 h
              refine q_iconst hX dL_law_588 (v := (nI 0)) (by decide) ?_
              exact q_dr (w_L_law_b589 hf hX hR hN hS hE  (r502 := (n * 656 + 5 + (max (r668) (r674)))) (s502 := (n * 7076 + 30 + (max (s668) (s674)))) (fun {_ _} hc_ hw_ _ _ _ _ _ _ _ _ _ _ h => ih (Nat.le_of_lt_succ (by omega)) (Nat.le_of_lt_succ (by omega)) _ _ _ _ _ _ _ _ _ _  h)  (Nat.le_of_lt_succ (by omega)) (Nat.le_of_lt_succ (by omega)) _ _ _ _ _ _ _ _ _ _ _ _ (Or.inl rfl) (isC_n (by decide)) h) ⟨Or.inl rfl, Or.inl rfl, Or.inl rfl, Or.inl rfl, Or.inl rfl, Or.inl rfl, Or.inl rfl, Or.inl rfl, Or.inl rfl, Or.inl rfl, Or.inl rfl, Or.inl rfl, Or.inl rfl, Or.inl rfl, Or.inl rfl, Or.inl rfl, Or.inl rfl, Or.inl rfl, Or.inl rfl, Or.inl rfl, Or.inl rfl, trivial⟩
            · replace h := ite_t q29 h
              refine q_iconst hX dL_law_584 (v := (nI 1)) (by decide) ?_
              refine q_goto hX dL_law_585 (tgt := 589) (by decide) ?_
              exact q_dr (w_L_law_b589 hf hX hR hN hS hE  (r502 := (n * 656 + 5 + (max (r668) (r674)))) (s502 := (n * 7076 + 30 + (max (s668) (s674)))) (fun {_ _} hc_ hw_ _ _ _ _ _ _ _ _ _ _ h => ih (Nat.le_of_lt_succ (by omega)) (Nat.le_of_lt_succ (by omega)) _ _ _ _ _ _ _ _ _ _  h)  (Nat.le_of_lt_succ (by omega)) (Nat.le_of_lt_succ (by omega)) _ _ _ _ _ _ _ _ _ _ _ _ (Or.inr rfl) (isC_n (by decide)) h) ⟨Or.inl rfl, Or.inl rfl, Or.inl rfl, Or.inl rfl, Or.inl rfl, Or.inl rfl, Or.inl rfl, Or.inl rfl, Or.inl rfl, Or.inl rfl, Or.inl rfl, Or.inl rfl, Or.inl rfl, Or.inl rfl, Or.inl rfl, Or.inl rfl, Or.inl rfl, Or.inl rfl, Or.inl rfl, Or.inl rfl, Or.inl rfl, trivial⟩
set_option maxRecDepth 100000 in
set_option maxHeartbeats 4000000 in
theorem w_L_law_b674 {X : XT} {D : DT} {l : Launch} {L : LT} {xs : Nat → Int32} {nn : Nat} {K : Int32 → IT → Prop} {X769 : Int32 → Int32 → Int32 → Int32 → Int32 → UInt32 → UInt32 → UInt64 → Int32 → Nat → Int32 → IT → Prop} (hf : l.stackTraces = false) (hX : OK X D cL_law "TeaHouseLaw" 21) (hR : Room2 X l D 14 730279 6904340) (hN : NCX X) (hS : ScrX X D nn xs) (hE : EndAt X D L K 730279 6904340) {r769 s769 : Nat} (hx769 : ∀ {c w : Nat}, c + r769 ≤ 730279 → w + s769 ≤ 6904340 → ∀ (v2 : Int32) (v3 : Int32) (v4 : Int32) (v5 : Int32) (v6 : Int32) (v7 : UInt32) (v8 : UInt32) (v9 : UInt64) (v11 : Int32) (v12 : Nat) (v13 : Int32) (I : IT), isZ v11 → isC v11 → isTx v12 → X769 v2 v3 v4 v5 v6 v7 v8 v9 v11 v12 v13 I → J2 X D 21 c w I L 769 [.ref 1000300, .ref 0, .int v2, .int v3, .int v4, .int v5, .int v6, .float v7, .float v8, .double v9, .retAddr 0, .int v11, .ref v12, .int v13, .retAddr 0, .retAddr 0, .retAddr 0, .retAddr 0, .retAddr 0, .retAddr 0, .retAddr 0] []) : ∀ (n : Nat), ∀ {c w : Nat}, c + (n * 5 + 0 + r769) ≤ 730279 → w + (n * 30 + 0 + s769) ≤ 6904340 → ∀ (v2 : Int32) (v3 : Int32) (v4 : Int32) (v5 : Int32) (v6 : Int32) (v7 : UInt32) (v8 : UInt32) (v9 : UInt64) (v11 : Int32) (v12 : Int32) (I : IT), isZ v11 → isC v11 → f_L_law_b674 xs nn X769 K n v2 v3 v4 v5 v6 v7 v8 v9 v11 v12 I → J2 X D 21 c w I L 674 [.ref 1000300, .ref 0, .int v2, .int v3, .int v4, .int v5, .int v6, .float v7, .float v8, .double v9, .retAddr 0, .int v11, .int v12, .retAddr 0, .retAddr 0, .retAddr 0, .retAddr 0, .retAddr 0, .retAddr 0, .retAddr 0, .retAddr 0] [] := by
  intro n
  induction n with
  | zero => intro c w hc hw v2 v3 v4 v5 v6 v7 v8 v9 v11 v12 I hzv11 hcv11 h; exact False.elim h
  | succ n ih =>
    intro c w hc hw v2 v3 v4 v5 v6 v7 v8 v9 v11 v12 I hzv11 hcv11 h
    rw [f_L_law_b674] at h
    refine q_iload hX dL_law_674 rfl ?_
    refine q_iload hX dL_law_676 rfl ?_
    refine q_icmp_ge hX dL_law_678 (tgt := 762) (by decide) (fun q1 => ?_) (fun q1 => ?_)
    · replace h := ite_t q1 h
      refine q_ldcS hX (tx := "") (code := 65) (by decide +kernel) dL_law_762 ?_
      refine q_astore hX dL_law_764 (by decide) (ls' := [_, _, _, _, _, _, _, _, _, _, _, _, _, _, _, _, _, _, _, _, _]) rfl ?_
      refine q_iconst hX dL_law_766 (v := (nI 0)) (by decide) ?_
      refine q_istore hX dL_law_767 (by decide) (ls' := [_, _, _, _, _, _, _, _, _, _, _, _, _, _, _, _, _, _, _, _, _]) rfl ?_
      exact q_dr (hx769 (Nat.le_of_lt_succ (by omega)) (Nat.le_of_lt_succ (by omega)) _ _ _ _ _ _ _ _ _ _ _ _ hzv11 hcv11 (tx_c (a := 1000065) rfl) h) ⟨Or.inl rfl, Or.inl rfl, Or.inl rfl, Or.inl rfl, Or.inl rfl, Or.inl rfl, Or.inl rfl, Or.inl rfl, Or.inl rfl, Or.inl rfl, Or.inl rfl, Or.inl rfl, Or.inl rfl, Or.inl rfl, Or.inl rfl, Or.inl rfl, Or.inl rfl, Or.inl rfl, Or.inl rfl, Or.inl rfl, Or.inl rfl, trivial⟩
    · replace h := ite_f q1 h
      refine q_fload hX dL_law_681 rfl ?_
      refine q_aload_n hX dL_law_683 rfl ?_
      refine q_iload hX dL_law_684 rfl ?_
      refine q_W_fp hX hR (w_X8_nightIncome hf  h) lk_L_279 (rc2_of (ci := 9) rfl rfl) dL_law_686 rfl rfl (Nat.le_of_ble_eq_true rfl) (Nat.le_of_lt_succ (by omega)) (Nat.le_of_lt_succ (by omega)) (Nat.le_of_lt_succ (by omega)) ?_ ?_
      rotate_left
      · intro E h
        exact False.elim h
      intro x2 h
      obtain ⟨z3, h⟩ := h
      refine q_fadd hX dL_law_689 z3 ?_
      refine q_fstore hX dL_law_690 (by decide) (ls' := [_, _, _, _, _, _, _, _, _, _, _, _, _, _, _, _, _, _, _, _, _]) rfl ?_
      refine q_iload hX dL_law_692 rfl ?_
      refine q_if_ne hX dL_law_694 (tgt := 700) (by decide) (fun q4 => ?_) (fun q4 => ?_)
      · replace h := ite_f q4 h
        refine q_aload_n hX dL_law_700 rfl ?_
        refine q_iload hX dL_law_701 rfl ?_
        refine q_iconst hX dL_law_703 (v := (nI 1)) (by decide) ?_
        refine q_isub hX dL_law_704 ?_
        refine q_W_ip hX hR (w_X8_nightByIncome hf  h) lk_L_84 (rc2_of (ci := 9) rfl rfl) dL_law_705 rfl rfl (Nat.le_of_ble_eq_true rfl) (Nat.le_of_lt_succ (by omega)) (Nat.le_of_lt_succ (by omega)) (Nat.le_of_lt_succ (by omega)) ?_ ?_
        rotate_left
        · intro E h
          exact False.elim h
        intro x6 h
        refine q_istore hX dL_law_708 (by decide) (ls' := [_, _, _, _, _, _, _, _, _, _, _, _, _, _, _, _, _, _, _, _, _]) rfl ?_
        refine q_aload_n hX dL_law_710 rfl ?_
        refine q_iload hX dL_law_711 rfl ?_
        refine q_W_ip hX hR (w_X8_nightByIncome hf  h) lk_L_84 (rc2_of (ci := 9) rfl rfl) dL_law_713 rfl rfl (Nat.le_of_ble_eq_true rfl) (Nat.le_of_lt_succ (by omega)) (Nat.le_of_lt_succ (by omega)) (Nat.le_of_lt_succ (by omega)) ?_ ?_
        rotate_left
        · intro E h
          exact False.elim h
        intro x7 h
        refine q_istore hX dL_law_716 (by decide) (ls' := [_, _, _, _, _, _, _, _, _, _, _, _, _, _, _, _, _, _, _, _, _]) rfl ?_
        refine q_aload_n hX dL_law_718 rfl ?_
        refine q_iload hX dL_law_719 rfl ?_
        refine q_W_fp hX hR (w_X8_nightIncome hf  h) lk_L_279 (rc2_of (ci := 9) rfl rfl) dL_law_721 rfl rfl (Nat.le_of_ble_eq_true rfl) (Nat.le_of_lt_succ (by omega)) (Nat.le_of_lt_succ (by omega)) (Nat.le_of_lt_succ (by omega)) ?_ ?_
        rotate_left
        · intro E h
          exact False.elim h
        intro x8 h
        refine q_aload_n hX dL_law_724 rfl ?_
        refine q_iload hX dL_law_725 rfl ?_
        refine q_W_fp hX hR (w_X8_nightIncome hf  h) lk_L_279 (rc2_of (ci := 9) rfl rfl) dL_law_727 rfl rfl (Nat.le_of_ble_eq_true rfl) (Nat.le_of_lt_succ (by omega)) (Nat.le_of_lt_succ (by omega)) (Nat.le_of_lt_succ (by omega)) ?_ ?_
        rotate_left
        · intro E h
          exact False.elim h
        intro x9 h
        obtain ⟨z10, h⟩ := h
        refine q_fsub hX dL_law_730 z10 ?_
        refine q_fstore hX dL_law_731 (by decide) (ls' := [_, _, _, _, _, _, _, _, _, _, _, _, _, _, _, _, _, _, _, _, _]) rfl ?_
        refine q_fload hX dL_law_733 rfl ?_
        refine q_fconst0 hX dL_law_735 ?_
        refine q_fcmp hX dL_law_736 ?_
        refine q_if_lt hX dL_law_737 (tgt := 754) (by decide) (fun q11 => ?_) (fun q11 => ?_)
        · replace h := ite_t q11 h
          refine q_iconst hX dL_law_754 (v := (nI 0)) (by decide) ?_
          exact hE dL_law_755 (Nat.le_of_lt_succ (by omega)) (Nat.le_of_lt_succ (by omega)) h
        · replace h := ite_f q11 h
          refine q_fload hX dL_law_740 rfl ?_
          refine q_fconst0 hX dL_law_742 ?_
          refine q_fcmp hX dL_law_743 ?_
          refine q_if_ne hX dL_law_744 (tgt := 756) (by decide) (fun q12 => ?_) (fun q12 => ?_)
          · replace h := ite_f q12 h
            replace h := bnd_e h
            refine q_iinc hX dL_law_756 (by decide) rfl (v := _ + nI 1) (ls' := [_, _, _, _, _, _, _, _, _, _, _, _, _, _, _, _, _, _, _, _, _]) rfl rfl ?_
            refine q_goto hX dL_law_759 (tgt := 674) (by decide) ?_
            exact q_dr (ih (Nat.le_of_lt_succ (by omega)) (Nat.le_of_lt_succ (by omega)) _ _ _ _ _ _ _ _ _ _ _ hzv11 hcv11 h) ⟨Or.inl rfl, Or.inl rfl, Or.inl rfl, Or.inl rfl, Or.inl rfl, Or.inl rfl, Or.inl rfl, Or.inl rfl, Or.inl rfl, Or.inl rfl, Or.inl rfl, Or.inl rfl, Or.inl rfl, Or.inr rfl, Or.inr rfl, Or.inr rfl, Or.inl rfl, Or.inl rfl, Or.inl rfl, Or.inl rfl, Or.inl rfl, trivial⟩
          · replace h := ite_t q12 h
            refine q_iload hX dL_law_747 rfl ?_
            refine q_iload hX dL_law_749 rfl ?_
            refine q_icmp_le hX dL_law_751 (tgt := 756) (by decide) (fun q13 => ?_) (fun q13 => ?_)
            · replace h := ite_t q13 h
              replace h := bnd_e h
              refine q_iinc hX dL_law_756 (by decide) rfl (v := _ + nI 1) (ls' := [_, _, _, _, _, _, _, _, _, _, _, _, _, _, _, _, _, _, _, _, _]) rfl rfl ?_
              refine q_goto hX dL_law_759 (tgt := 674) (by decide) ?_
              exact q_dr (ih (Nat.le_of_lt_succ (by omega)) (Nat.le_of_lt_succ (by omega)) _ _ _ _ _ _ _ _ _ _ _ hzv11 hcv11 h) ⟨Or.inl rfl, Or.inl rfl, Or.inl rfl, Or.inl rfl, Or.inl rfl, Or.inl rfl, Or.inl rfl, Or.inl rfl, Or.inl rfl, Or.inl rfl, Or.inl rfl, Or.inl rfl, Or.inl rfl, Or.inr rfl, Or.inr rfl, Or.inr rfl, Or.inl rfl, Or.inl rfl, Or.inl rfl, Or.inl rfl, Or.inl rfl, trivial⟩
            · replace h := ite_f q13 h
              refine q_iconst hX dL_law_754 (v := (nI 0)) (by decide) ?_
              exact hE dL_law_755 (Nat.le_of_lt_succ (by omega)) (Nat.le_of_lt_succ (by omega)) h
      · replace h := ite_t q4 h
        refine q_goto hX dL_law_697 (tgt := 756) (by decide) ?_
        replace h := bnd_e h
        refine q_iinc hX dL_law_756 (by decide) rfl (v := _ + nI 1) (ls' := [_, _, _, _, _, _, _, _, _, _, _, _, _, _, _, _, _, _, _, _, _]) rfl rfl ?_
        refine q_goto hX dL_law_759 (tgt := 674) (by decide) ?_
        exact q_dr (ih (Nat.le_of_lt_succ (by omega)) (Nat.le_of_lt_succ (by omega)) _ _ _ _ _ _ _ _ _ _ _ hzv11 hcv11 h) ⟨Or.inl rfl, Or.inl rfl, Or.inl rfl, Or.inl rfl, Or.inl rfl, Or.inl rfl, Or.inl rfl, Or.inl rfl, Or.inl rfl, Or.inl rfl, Or.inl rfl, Or.inl rfl, Or.inl rfl, Or.inl rfl, Or.inl rfl, Or.inl rfl, Or.inl rfl, Or.inl rfl, Or.inl rfl, Or.inl rfl, Or.inl rfl, trivial⟩
set_option maxRecDepth 100000 in
set_option maxHeartbeats 4000000 in
theorem w_L_law_b800 {X : XT} {D : DT} {l : Launch} {L : LT} {xs : Nat → Int32} {nn : Nat} {K : Int32 → IT → Prop} {X769 : Int32 → Int32 → Int32 → Int32 → Int32 → UInt32 → UInt32 → UInt64 → Int32 → Nat → Int32 → IT → Prop} (hf : l.stackTraces = false) (hX : OK X D cL_law "TeaHouseLaw" 21) (hR : Room2 X l D 14 730279 6904340) (hN : NCX X) (hS : ScrX X D nn xs) (hE : EndAt X D L K 730279 6904340) {r769 s769 : Nat} (hx769 : ∀ {c w : Nat}, c + r769 ≤ 730279 → w + s769 ≤ 6904340 → ∀ (v2 : Int32) (v3 : Int32) (v4 : Int32) (v5 : Int32) (v6 : Int32) (v7 : UInt32) (v8 : UInt32) (v9 : UInt64) (v11 : Int32) (v12 : Nat) (v13 : Int32) (I : IT), isZ v11 → isC v11 → isTx v12 → X769 v2 v3 v4 v5 v6 v7 v8 v9 v11 v12 v13 I → J2 X D 21 c w I L 769 [.ref 1000300, .ref 0, .int v2, .int v3, .int v4, .int v5, .int v6, .float v7, .float v8, .double v9, .retAddr 0, .int v11, .ref v12, .int v13, .retAddr 0, .retAddr 0, .retAddr 0, .retAddr 0, .retAddr 0, .retAddr 0, .retAddr 0] []) : ∀ {c w : Nat}, c + (5 + r769) ≤ 730279 → w + (816 + s769) ≤ 6904340 → ∀ (v2 : Int32) (v3 : Int32) (v4 : Int32) (v5 : Int32) (v6 : Int32) (v7 : UInt32) (v8 : UInt32) (v9 : UInt64) (v11 : Int32) (v13 : Int32) (s0 : Nat) (s1 : Nat) (I : IT), isZ v11 → isC v11 → isDy s0 → isTx s1 → f_L_law_b800 xs nn X769 K v2 v3 v4 v5 v6 v7 v8 v9 v11 v13 s0 s1 I → J2 X D 21 c w I L 800 [.ref 1000300, .ref 0, .int v2, .int v3, .int v4, .int v5, .int v6, .float v7, .float v8, .double v9, .retAddr 0, .int v11, .retAddr 0, .int v13, .retAddr 0, .retAddr 0, .retAddr 0, .retAddr 0, .retAddr 0, .retAddr 0, .retAddr 0] [.ref s1, .ref s0] := by
  intro c w hc hw v2 v3 v4 v5 v6 v7 v8 v9 v11 v13 s0 s1 I hzv11 hcv11 hs0 hs1 h
  rw [f_L_law_b800] at h
  refine q_T_appS hX hR hs0 hs1 lk_L_223 dL_law_800 (Nat.le_of_ble_eq_true rfl) (Nat.le_of_lt_succ (by omega)) (Nat.le_of_lt_succ (by omega)) (Nat.le_of_lt_succ (by omega)) h ?_
  intro I1 h
  refine q_aload_n hX dL_law_803 rfl ?_
  refine q_iload hX dL_law_804 rfl ?_
  refine q_W_fp hX hR (w_X8_nightIncome hf  h) lk_L_279 (rc2_of (ci := 9) rfl rfl) dL_law_806 rfl rfl (Nat.le_of_ble_eq_true rfl) (Nat.le_of_lt_succ (by omega)) (Nat.le_of_lt_succ (by omega)) (Nat.le_of_lt_succ (by omega)) ?_ ?_
  rotate_left
  · intro E h
    exact False.elim h
  intro x2 h
  refine q_SL_i hX hR hN hS (w_L_eighths hf  h) lk_L_203 dL_law_809 rfl rfl (Nat.le_of_ble_eq_true rfl) (Nat.le_of_lt_succ (by omega)) (Nat.le_of_lt_succ (by omega)) (Nat.le_of_lt_succ (by omega)) ?_
  intro x3 I4 h
  refine q_T_appI hX hR hs0 lk_L_227 dL_law_812 (Nat.le_of_ble_eq_true rfl) (Nat.le_of_lt_succ (by omega)) (Nat.le_of_lt_succ (by omega)) (Nat.le_of_lt_succ (by omega)) h ?_
  intro I5 h
  refine q_T_str hX hR hs0 lk_L_238 dL_law_815 (Nat.le_of_ble_eq_true rfl) (Nat.le_of_lt_succ (by omega)) (Nat.le_of_lt_succ (by omega)) (Nat.le_of_lt_succ (by omega)) h ?_
  intro x7 I6 hrx7 h
  refine q_astore hX dL_law_818 (by decide) (ls' := [_, _, _, _, _, _, _, _, _, _, _, _, _, _, _, _, _, _, _, _, _]) rfl ?_
  replace h := bnd_e h
  refine q_iinc hX dL_law_820 (by decide) rfl (v := _ + nI 1) (ls' := [_, _, _, _, _, _, _, _, _, _, _, _, _, _, _, _, _, _, _, _, _]) rfl rfl ?_
  refine q_goto hX dL_law_823 (tgt := 769) (by decide) ?_
  exact q_dr (hx769 (Nat.le_of_lt_succ (by omega)) (Nat.le_of_lt_succ (by omega)) _ _ _ _ _ _ _ _ _ _ _ _ hzv11 hcv11 (Or.inr hrx7) h) ⟨Or.inl rfl, Or.inl rfl, Or.inl rfl, Or.inl rfl, Or.inl rfl, Or.inl rfl, Or.inl rfl, Or.inl rfl, Or.inl rfl, Or.inl rfl, Or.inl rfl, Or.inl rfl, Or.inl rfl, Or.inl rfl, Or.inl rfl, Or.inl rfl, Or.inl rfl, Or.inl rfl, Or.inl rfl, Or.inl rfl, Or.inl rfl, trivial⟩
set_option maxRecDepth 100000 in
set_option maxHeartbeats 4000000 in
theorem w_L_law_b769 {X : XT} {D : DT} {l : Launch} {L : LT} {xs : Nat → Int32} {nn : Nat} {K : Int32 → IT → Prop} {X829 : Int32 → Int32 → Int32 → Int32 → Int32 → UInt32 → UInt32 → UInt64 → Int32 → Nat → Int32 → IT → Prop} (hf : l.stackTraces = false) (hX : OK X D cL_law "TeaHouseLaw" 21) (hR : Room2 X l D 14 730279 6904340) (hN : NCX X) (hS : ScrX X D nn xs) (hE : EndAt X D L K 730279 6904340) {r829 s829 : Nat} (hx829 : ∀ {c w : Nat}, c + r829 ≤ 730279 → w + s829 ≤ 6904340 → ∀ (v2 : Int32) (v3 : Int32) (v4 : Int32) (v5 : Int32) (v6 : Int32) (v7 : UInt32) (v8 : UInt32) (v9 : UInt64) (v11 : Int32) (v12 : Nat) (v13 : Int32) (I : IT), isZ v11 → isC v11 → isTx v12 → X829 v2 v3 v4 v5 v6 v7 v8 v9 v11 v12 v13 I → J2 X D 21 c w I L 829 [.ref 1000300, .ref 0, .int v2, .int v3, .int v4, .int v5, .int v6, .float v7, .float v8, .double v9, .retAddr 0, .int v11, .ref v12, .int v13, .retAddr 0, .retAddr 0, .retAddr 0, .retAddr 0, .retAddr 0, .retAddr 0, .retAddr 0] []) : ∀ (n : Nat), ∀ {c w : Nat}, c + (n * 8 + 0 + r829) ≤ 730279 → w + (n * 1156 + 0 + s829) ≤ 6904340 → ∀ (v2 : Int32) (v3 : Int32) (v4 : Int32) (v5 : Int32) (v6 : Int32) (v7 : UInt32) (v8 : UInt32) (v9 : UInt64) (v11 : Int32) (v12 : Nat) (v13 : Int32) (I : IT), isZ v11 → isC v11 → isTx v12 → f_L_law_b769 xs nn X829 K n v2 v3 v4 v5 v6 v7 v8 v9 v11 v12 v13 I → J2 X D 21 c w I L 769 [.ref 1000300, .ref 0, .int v2, .int v3, .int v4, .int v5, .int v6, .float v7, .float v8, .double v9, .retAddr 0, .int v11, .ref v12, .int v13, .retAddr 0, .retAddr 0, .retAddr 0, .retAddr 0, .retAddr 0, .retAddr 0, .retAddr 0] [] := by
  intro n
  induction n with
  | zero => intro c w hc hw v2 v3 v4 v5 v6 v7 v8 v9 v11 v12 v13 I hzv11 hcv11 hv12 h; exact False.elim h
  | succ n ih =>
    intro c w hc hw v2 v3 v4 v5 v6 v7 v8 v9 v11 v12 v13 I hzv11 hcv11 hv12 h
    rw [f_L_law_b769] at h
    refine q_iload hX dL_law_769 rfl ?_
    refine q_iload hX dL_law_771 rfl ?_
    refine q_icmp_ge hX dL_law_773 (tgt := 826) (by decide) (fun q1 => ?_) (fun q1 => ?_)
    · replace h := ite_t q1 h
      refine q_iconst hX dL_law_826 (v := (nI 1)) (by decide) ?_
      refine q_istore hX dL_law_827 (by decide) (ls' := [_, _, _, _, _, _, _, _, _, _, _, _, _, _, _, _, _, _, _, _, _]) rfl ?_
      exact q_dr (hx829 (Nat.le_of_lt_succ (by omega)) (Nat.le_of_lt_succ (by omega)) _ _ _ _ _ _ _ _ _ _ _ _ hzv11 hcv11 hv12 h) ⟨Or.inl rfl, Or.inl rfl, Or.inl rfl, Or.inl rfl, Or.inl rfl, Or.inl rfl, Or.inl rfl, Or.inl rfl, Or.inl rfl, Or.inl rfl, Or.inl rfl, Or.inl rfl, Or.inl rfl, Or.inl rfl, Or.inl rfl, Or.inl rfl, Or.inl rfl, Or.inl rfl, Or.inl rfl, Or.inl rfl, Or.inl rfl, trivial⟩
    · replace h := ite_f q1 h
      refine q_T_new hX hR nw_L_218 lk_L_220 dL_law_776 dL_law_779 dL_law_780 (Nat.le_of_ble_eq_true rfl) (Nat.le_of_lt_succ (by omega)) (Nat.le_of_lt_succ (by omega)) (Nat.le_of_lt_succ (by omega)) h ?_
      intro a2 I3 hra2 h
      refine q_aload hX dL_law_783 rfl ?_
      refine q_T_appS hX hR hra2 hv12 lk_L_223 dL_law_785 (Nat.le_of_ble_eq_true rfl) (Nat.le_of_lt_succ (by omega)) (Nat.le_of_lt_succ (by omega)) (Nat.le_of_lt_succ (by omega)) h ?_
      intro I4 h
      refine q_iload hX dL_law_788 rfl ?_
      refine q_if_le hX dL_law_790 (tgt := 798) (by decide) (fun q5 => ?_) (fun q5 => ?_)
      · replace h := ite_t q5 h
        refine q_ldcS hX (tx := "") (code := 65) (by decide +kernel) dL_law_798 ?_
        exact q_dr (w_L_law_b800 hf hX hR hN hS hE  (r769 := (n * 8 + 0 + r829)) (s769 := (n * 1156 + 0 + s829)) (fun {_ _} hc_ hw_ _ _ _ _ _ _ _ _ _ _ _ _ hzv11 hcv11 hv12 h => ih (Nat.le_of_lt_succ (by omega)) (Nat.le_of_lt_succ (by omega)) _ _ _ _ _ _ _ _ _ _ _ _ hzv11 hcv11 hv12 h)  (Nat.le_of_lt_succ (by omega)) (Nat.le_of_lt_succ (by omega)) _ _ _ _ _ _ _ _ _ _ _ _ _ hzv11 hcv11 hra2 (tx_c (a := 1000065) rfl) h) ⟨Or.inl rfl, Or.inl rfl, Or.inl rfl, Or.inl rfl, Or.inl rfl, Or.inl rfl, Or.inl rfl, Or.inl rfl, Or.inl rfl, Or.inl rfl, Or.inl rfl, Or.inl rfl, Or.inr rfl, Or.inl rfl, Or.inl rfl, Or.inl rfl, Or.inl rfl, Or.inl rfl, Or.inl rfl, Or.inl rfl, Or.inl rfl, trivial⟩
      · replace h := ite_f q5 h
        refine q_ldcS hX (tx := " ") (code := 61) (by decide +kernel) dL_law_793 ?_
        refine q_goto hX dL_law_795 (tgt := 800) (by decide) ?_
        exact q_dr (w_L_law_b800 hf hX hR hN hS hE  (r769 := (n * 8 + 0 + r829)) (s769 := (n * 1156 + 0 + s829)) (fun {_ _} hc_ hw_ _ _ _ _ _ _ _ _ _ _ _ _ hzv11 hcv11 hv12 h => ih (Nat.le_of_lt_succ (by omega)) (Nat.le_of_lt_succ (by omega)) _ _ _ _ _ _ _ _ _ _ _ _ hzv11 hcv11 hv12 h)  (Nat.le_of_lt_succ (by omega)) (Nat.le_of_lt_succ (by omega)) _ _ _ _ _ _ _ _ _ _ _ _ _ hzv11 hcv11 hra2 (tx_c (a := 1000061) rfl) h) ⟨Or.inl rfl, Or.inl rfl, Or.inl rfl, Or.inl rfl, Or.inl rfl, Or.inl rfl, Or.inl rfl, Or.inl rfl, Or.inl rfl, Or.inl rfl, Or.inl rfl, Or.inl rfl, Or.inr rfl, Or.inl rfl, Or.inl rfl, Or.inl rfl, Or.inl rfl, Or.inl rfl, Or.inl rfl, Or.inl rfl, Or.inl rfl, trivial⟩
set_option maxRecDepth 100000 in
set_option maxHeartbeats 4000000 in
theorem w_L_law_b859 {X : XT} {D : DT} {l : Launch} {L : LT} {xs : Nat → Int32} {nn : Nat} {K : Int32 → IT → Prop} {X842 : Int32 → Int32 → Int32 → Int32 → Int32 → UInt32 → UInt32 → UInt64 → Int32 → Nat → Int32 → UInt32 → Int32 → IT → Prop} (hf : l.stackTraces = false) (hX : OK X D cL_law "TeaHouseLaw" 21) (hR : Room2 X l D 14 730279 6904340) (hN : NCX X) (hS : ScrX X D nn xs) (hE : EndAt X D L K 730279 6904340) {r842 s842 : Nat} (hx842 : ∀ {c w : Nat}, c + r842 ≤ 730279 → w + s842 ≤ 6904340 → ∀ (v2 : Int32) (v3 : Int32) (v4 : Int32) (v5 : Int32) (v6 : Int32) (v7 : UInt32) (v8 : UInt32) (v9 : UInt64) (v11 : Int32) (v12 : Nat) (v13 : Int32) (v14 : UInt32) (v15 : Int32) (I : IT), isZ v11 → isC v11 → isTx v12 → X842 v2 v3 v4 v5 v6 v7 v8 v9 v11 v12 v13 v14 v15 I → J2 X D 21 c w I L 842 [.ref 1000300, .ref 0, .int v2, .int v3, .int v4, .int v5, .int v6, .float v7, .float v8, .double v9, .retAddr 0, .int v11, .ref v12, .int v13, .float v14, .int v15, .retAddr 0, .retAddr 0, .retAddr 0, .retAddr 0, .retAddr 0] []) : ∀ (n : Nat), ∀ {c w : Nat}, c + (n * 1 + 0 + r842) ≤ 730279 → w + (n * 6 + 0 + s842) ≤ 6904340 → ∀ (v2 : Int32) (v3 : Int32) (v4 : Int32) (v5 : Int32) (v6 : Int32) (v7 : UInt32) (v8 : UInt32) (v9 : UInt64) (v11 : Int32) (v12 : Nat) (v13 : Int32) (v14 : UInt32) (v15 : Int32) (v16 : UInt32) (v17 : Int32) (I : IT), isZ v11 → isC v11 → isTx v12 → f_L_law_b859 xs nn X842 K n v2 v3 v4 v5 v6 v7 v8 v9 v11 v12 v13 v14 v15 v16 v17 I → J2 X D 21 c w I L 859 [.ref 1000300, .ref 0, .int v2, .int v3, .int v4, .int v5, .int v6, .float v7, .float v8, .double v9, .retAddr 0, .int v11, .ref v12, .int v13, .float v14, .int v15, .float v16, .int v17, .retAddr 0, .retAddr 0, .retAddr 0] [] := by
  intro n
  induction n with
  | zero => intro c w hc hw v2 v3 v4 v5 v6 v7 v8 v9 v11 v12 v13 v14 v15 v16 v17 I hzv11 hcv11 hv12 h; exact False.elim h
  | succ n ih =>
    intro c w hc hw v2 v3 v4 v5 v6 v7 v8 v9 v11 v12 v13 v14 v15 v16 v17 I hzv11 hcv11 hv12 h
    rw [f_L_law_b859] at h
    refine q_iload hX dL_law_859 rfl ?_
    refine q_iload hX dL_law_861 rfl ?_
    refine q_iload hX dL_law_863 rfl ?_
    refine q_iadd hX dL_law_865 ?_
    refine q_icmp_ge hX dL_law_866 (tgt := 886) (by decide) (fun q1 => ?_) (fun q1 => ?_)
    · replace h := ite_t q1 h
      refine q_fload hX dL_law_886 rfl ?_
      refine q_fload hX dL_law_888 rfl ?_
      refine q_T_maxF hX hR  lk_L_282 dL_law_890 (Nat.le_of_ble_eq_true rfl) (Nat.le_of_lt_succ (by omega)) (Nat.le_of_lt_succ (by omega)) (Nat.le_of_lt_succ (by omega)) h ?_
      intro x2 h
      refine q_fstore hX dL_law_893 (by decide) (ls' := [_, _, _, _, _, _, _, _, _, _, _, _, _, _, _, _, _, _, _, _, _]) rfl ?_
      replace h := bnd_e h
      refine q_iinc hX dL_law_895 (by decide) rfl (v := _ + nI 1) (ls' := [_, _, _, _, _, _, _, _, _, _, _, _, _, _, _, _, _, _, _, _, _]) rfl rfl ?_
      refine q_goto hX dL_law_898 (tgt := 842) (by decide) ?_
      exact q_dr (hx842 (Nat.le_of_lt_succ (by omega)) (Nat.le_of_lt_succ (by omega)) _ _ _ _ _ _ _ _ _ _ _ _ _ _ hzv11 hcv11 hv12 h) ⟨Or.inl rfl, Or.inl rfl, Or.inl rfl, Or.inl rfl, Or.inl rfl, Or.inl rfl, Or.inl rfl, Or.inl rfl, Or.inl rfl, Or.inl rfl, Or.inl rfl, Or.inl rfl, Or.inl rfl, Or.inl rfl, Or.inl rfl, Or.inl rfl, Or.inr rfl, Or.inr rfl, Or.inl rfl, Or.inl rfl, Or.inl rfl, trivial⟩
    · replace h := ite_f q1 h
      refine q_fload hX dL_law_869 rfl ?_
      refine q_aload_n hX dL_law_871 rfl ?_
      refine q_iload hX dL_law_872 rfl ?_
      refine q_W_fp hX hR (w_X8_nightIncome hf  h) lk_L_279 (rc2_of (ci := 9) rfl rfl) dL_law_874 rfl rfl (Nat.le_of_ble_eq_true rfl) (Nat.le_of_lt_succ (by omega)) (Nat.le_of_lt_succ (by omega)) (Nat.le_of_lt_succ (by omega)) ?_ ?_
      rotate_left
      · intro E h
        exact False.elim h
      intro x4 h
      obtain ⟨z5, h⟩ := h
      refine q_fadd hX dL_law_877 z5 ?_
      refine q_fstore hX dL_law_878 (by decide) (ls' := [_, _, _, _, _, _, _, _, _, _, _, _, _, _, _, _, _, _, _, _, _]) rfl ?_
      replace h := bnd_e h
      refine q_iinc hX dL_law_880 (by decide) rfl (v := _ + nI 1) (ls' := [_, _, _, _, _, _, _, _, _, _, _, _, _, _, _, _, _, _, _, _, _]) rfl rfl ?_
      refine q_goto hX dL_law_883 (tgt := 859) (by decide) ?_
      exact q_dr (ih (Nat.le_of_lt_succ (by omega)) (Nat.le_of_lt_succ (by omega)) _ _ _ _ _ _ _ _ _ _ _ _ _ _ _ _ hzv11 hcv11 hv12 h) ⟨Or.inl rfl, Or.inl rfl, Or.inl rfl, Or.inl rfl, Or.inl rfl, Or.inl rfl, Or.inl rfl, Or.inl rfl, Or.inl rfl, Or.inl rfl, Or.inl rfl, Or.inl rfl, Or.inl rfl, Or.inl rfl, Or.inl rfl, Or.inl rfl, Or.inl rfl, Or.inl rfl, Or.inl rfl, Or.inl rfl, Or.inl rfl, trivial⟩
set_option maxRecDepth 100000 in
set_option maxHeartbeats 4000000 in
theorem w_L_law_b842 {X : XT} {D : DT} {l : Launch} {L : LT} {xs : Nat → Int32} {nn : Nat} {K : Int32 → IT → Prop} {X829 : Int32 → Int32 → Int32 → Int32 → Int32 → UInt32 → UInt32 → UInt64 → Int32 → Nat → Int32 → IT → Prop} (hf : l.stackTraces = false) (hX : OK X D cL_law "TeaHouseLaw" 21) (hR : Room2 X l D 14 730279 6904340) (hN : NCX X) (hS : ScrX X D nn xs) (hE : EndAt X D L K 730279 6904340) {r829 s829 : Nat} (hx829 : ∀ {c w : Nat}, c + r829 ≤ 730279 → w + s829 ≤ 6904340 → ∀ (v2 : Int32) (v3 : Int32) (v4 : Int32) (v5 : Int32) (v6 : Int32) (v7 : UInt32) (v8 : UInt32) (v9 : UInt64) (v11 : Int32) (v12 : Nat) (v13 : Int32) (I : IT), isZ v11 → isC v11 → isTx v12 → X829 v2 v3 v4 v5 v6 v7 v8 v9 v11 v12 v13 I → J2 X D 21 c w I L 829 [.ref 1000300, .ref 0, .int v2, .int v3, .int v4, .int v5, .int v6, .float v7, .float v8, .double v9, .retAddr 0, .int v11, .ref v12, .int v13, .retAddr 0, .retAddr 0, .retAddr 0, .retAddr 0, .retAddr 0, .retAddr 0, .retAddr 0] []) : ∀ (n : Nat), ∀ {c w : Nat}, c + (n * 20 + 2 + r829) ≤ 730279 → w + (n * 120 + 12 + s829) ≤ 6904340 → ∀ (v2 : Int32) (v3 : Int32) (v4 : Int32) (v5 : Int32) (v6 : Int32) (v7 : UInt32) (v8 : UInt32) (v9 : UInt64) (v11 : Int32) (v12 : Nat) (v13 : Int32) (v14 : UInt32) (v15 : Int32) (I : IT), isZ v11 → isC v11 → isTx v12 → f_L_law_b842 xs nn X829 K n v2 v3 v4 v5 v6 v7 v8 v9 v11 v12 v13 v14 v15 I → J2 X D 21 c w I L 842 [.ref 1000300, .ref 0, .int v2, .int v3, .int v4, .int v5, .int v6, .float v7, .float v8, .double v9, .retAddr 0, .int v11, .ref v12, .int v13, .float v14, .int v15, .retAddr 0, .retAddr 0, .retAddr 0, .retAddr 0, .retAddr 0] [] := by
  intro n
  induction n with
  | zero => intro c w hc hw v2 v3 v4 v5 v6 v7 v8 v9 v11 v12 v13 v14 v15 I hzv11 hcv11 hv12 h; exact False.elim h
  | succ n ih =>
    intro c w hc hw v2 v3 v4 v5 v6 v7 v8 v9 v11 v12 v13 v14 v15 I hzv11 hcv11 hv12 h
    rw [f_L_law_b842] at h
    refine q_iload hX dL_law_842 rfl ?_
    refine q_iload hX dL_law_844 rfl ?_
    refine q_iadd hX dL_law_846 ?_
    refine q_iload hX dL_law_847 rfl ?_
    refine q_icmp_gt hX dL_law_849 (tgt := 901) (by decide) (fun q1 => ?_) (fun q1 => ?_)
    · replace h := ite_t q1 h
      refine q_aload_n hX dL_law_901 rfl ?_
      refine q_iload hX dL_law_902 rfl ?_
      refine q_W_fp hX hR (w_X8_greatestIncome hf  h) lk_L_90 (rc2_of (ci := 9) rfl rfl) dL_law_904 rfl rfl (Nat.le_of_ble_eq_true rfl) (Nat.le_of_lt_succ (by omega)) (Nat.le_of_lt_succ (by omega)) (Nat.le_of_lt_succ (by omega)) ?_ ?_
      rotate_left
      · intro E h
        exact False.elim h
      intro x2 h
      refine q_fload hX dL_law_907 rfl ?_
      refine q_fcmp hX dL_law_909 ?_
      refine q_if_ne hX dL_law_910 (tgt := 925) (by decide) (fun q3 => ?_) (fun q3 => ?_)
      · replace h := ite_f q3 h
        refine q_iconst hX dL_law_925 (v := (nI 0)) (by decide) ?_
        exact hE dL_law_926 (Nat.le_of_lt_succ (by omega)) (Nat.le_of_lt_succ (by omega)) h
      · replace h := ite_t q3 h
        refine q_aload_n hX dL_law_913 rfl ?_
        refine q_iload hX dL_law_914 rfl ?_
        refine q_W_fp hX hR (w_X8_greatestIncomeBySums hf  h) lk_L_94 (rc2_of (ci := 9) rfl rfl) dL_law_916 rfl rfl (Nat.le_of_ble_eq_true rfl) (Nat.le_of_lt_succ (by omega)) (Nat.le_of_lt_succ (by omega)) (Nat.le_of_lt_succ (by omega)) ?_ ?_
        rotate_left
        · intro E h
          exact False.elim h
        intro x4 h
        refine q_fload hX dL_law_919 rfl ?_
        refine q_fcmp hX dL_law_921 ?_
        refine q_if_eq hX dL_law_922 (tgt := 927) (by decide) (fun q5 => ?_) (fun q5 => ?_)
        · replace h := ite_t q5 h
          replace h := bnd_e h
          refine q_iinc hX dL_law_927 (by decide) rfl (v := _ + nI 1) (ls' := [_, _, _, _, _, _, _, _, _, _, _, _, _, _, _, _, _, _, _, _, _]) rfl rfl ?_
          refine q_goto hX dL_law_930 (tgt := 829) (by decide) ?_
          exact q_dr (hx829 (Nat.le_of_lt_succ (by omega)) (Nat.le_of_lt_succ (by omega)) _ _ _ _ _ _ _ _ _ _ _ _ hzv11 hcv11 hv12 h) ⟨Or.inl rfl, Or.inl rfl, Or.inl rfl, Or.inl rfl, Or.inl rfl, Or.inl rfl, Or.inl rfl, Or.inl rfl, Or.inl rfl, Or.inl rfl, Or.inl rfl, Or.inl rfl, Or.inl rfl, Or.inl rfl, Or.inr rfl, Or.inr rfl, Or.inl rfl, Or.inl rfl, Or.inl rfl, Or.inl rfl, Or.inl rfl, trivial⟩
        · replace h := ite_f q5 h
          refine q_iconst hX dL_law_925 (v := (nI 0)) (by decide) ?_
          exact hE dL_law_926 (Nat.le_of_lt_succ (by omega)) (Nat.le_of_lt_succ (by omega)) h
    · replace h := ite_f q1 h
      refine q_fconst0 hX dL_law_852 ?_
      refine q_fstore hX dL_law_853 (by decide) (ls' := [_, _, _, _, _, _, _, _, _, _, _, _, _, _, _, _, _, _, _, _, _]) rfl ?_
      refine q_iload hX dL_law_855 rfl ?_
      refine q_istore hX dL_law_857 (by decide) (ls' := [_, _, _, _, _, _, _, _, _, _, _, _, _, _, _, _, _, _, _, _, _]) rfl ?_
      exact q_dr (w_L_law_b859 hf hX hR hN hS hE  (r842 := (n * 20 + 2 + r829)) (s842 := (n * 120 + 12 + s829)) (fun {_ _} hc_ hw_ _ _ _ _ _ _ _ _ _ _ _ _ _ _ hzv11 hcv11 hv12 h => ih (Nat.le_of_lt_succ (by omega)) (Nat.le_of_lt_succ (by omega)) _ _ _ _ _ _ _ _ _ _ _ _ _ _ hzv11 hcv11 hv12 h) _  (Nat.le_of_lt_succ (by omega)) (Nat.le_of_lt_succ (by omega)) _ _ _ _ _ _ _ _ _ _ _ _ _ _ _ _ hzv11 hcv11 hv12 h) ⟨Or.inl rfl, Or.inl rfl, Or.inl rfl, Or.inl rfl, Or.inl rfl, Or.inl rfl, Or.inl rfl, Or.inl rfl, Or.inl rfl, Or.inl rfl, Or.inl rfl, Or.inl rfl, Or.inl rfl, Or.inl rfl, Or.inl rfl, Or.inl rfl, Or.inl rfl, Or.inl rfl, Or.inl rfl, Or.inl rfl, Or.inl rfl, trivial⟩
set_option maxRecDepth 100000 in
set_option maxHeartbeats 4000000 in
theorem w_L_law_b829 {X : XT} {D : DT} {l : Launch} {L : LT} {xs : Nat → Int32} {nn : Nat} {K : Int32 → IT → Prop} {X954 : Int32 → Int32 → Int32 → Int32 → Int32 → UInt32 → UInt32 → UInt64 → Int32 → Nat → IT → Prop} (hf : l.stackTraces = false) (hX : OK X D cL_law "TeaHouseLaw" 21) (hR : Room2 X l D 14 730279 6904340) (hN : NCX X) (hS : ScrX X D nn xs) (hE : EndAt X D L K 730279 6904340) {r954 s954 : Nat} (hx954 : ∀ {c w : Nat}, c + r954 ≤ 730279 → w + s954 ≤ 6904340 → ∀ (v2 : Int32) (v3 : Int32) (v4 : Int32) (v5 : Int32) (v6 : Int32) (v7 : UInt32) (v8 : UInt32) (v9 : UInt64) (v11 : Int32) (v12 : Nat) (I : IT), isZ v11 → isC v11 → isTx v12 → X954 v2 v3 v4 v5 v6 v7 v8 v9 v11 v12 I → J2 X D 21 c w I L 954 [.ref 1000300, .ref 0, .int v2, .int v3, .int v4, .int v5, .int v6, .float v7, .float v8, .double v9, .retAddr 0, .int v11, .ref v12, .retAddr 0, .retAddr 0, .retAddr 0, .retAddr 0, .retAddr 0, .retAddr 0, .retAddr 0, .retAddr 0] []) : ∀ (n : Nat), ∀ {c w : Nat}, c + (n * 402 + 1 + r954) ≤ 730279 → w + (n * 2412 + 6 + s954) ≤ 6904340 → ∀ (v2 : Int32) (v3 : Int32) (v4 : Int32) (v5 : Int32) (v6 : Int32) (v7 : UInt32) (v8 : UInt32) (v9 : UInt64) (v11 : Int32) (v12 : Nat) (v13 : Int32) (I : IT), isZ v11 → isC v11 → isTx v12 → f_L_law_b829 xs nn X954 K n v2 v3 v4 v5 v6 v7 v8 v9 v11 v12 v13 I → J2 X D 21 c w I L 829 [.ref 1000300, .ref 0, .int v2, .int v3, .int v4, .int v5, .int v6, .float v7, .float v8, .double v9, .retAddr 0, .int v11, .ref v12, .int v13, .retAddr 0, .retAddr 0, .retAddr 0, .retAddr 0, .retAddr 0, .retAddr 0, .retAddr 0] [] := by
  intro n
  induction n with
  | zero => intro c w hc hw v2 v3 v4 v5 v6 v7 v8 v9 v11 v12 v13 I hzv11 hcv11 hv12 h; exact False.elim h
  | succ n ih =>
    intro c w hc hw v2 v3 v4 v5 v6 v7 v8 v9 v11 v12 v13 I hzv11 hcv11 hv12 h
    rw [f_L_law_b829] at h
    refine q_iload hX dL_law_829 rfl ?_
    refine q_iload hX dL_law_831 rfl ?_
    refine q_icmp_gt hX dL_law_833 (tgt := 933) (by decide) (fun q1 => ?_) (fun q1 => ?_)
    · replace h := ite_t q1 h
      refine q_iload hX dL_law_933 rfl ?_
      refine q_bipush hX dL_law_935 (v := (nI 14)) (by decide) ?_
      refine q_icmp_ge hX dL_law_937 (tgt := 954) (by decide) (fun q2 => ?_) (fun q2 => ?_)
      · replace h := ite_t q2 h
        exact q_dr (hx954 (Nat.le_of_lt_succ (by omega)) (Nat.le_of_lt_succ (by omega)) _ _ _ _ _ _ _ _ _ _ _ hzv11 hcv11 hv12 h) ⟨Or.inl rfl, Or.inl rfl, Or.inl rfl, Or.inl rfl, Or.inl rfl, Or.inl rfl, Or.inl rfl, Or.inl rfl, Or.inl rfl, Or.inl rfl, Or.inl rfl, Or.inl rfl, Or.inl rfl, Or.inr rfl, Or.inl rfl, Or.inl rfl, Or.inl rfl, Or.inl rfl, Or.inl rfl, Or.inl rfl, Or.inl rfl, trivial⟩
      · replace h := ite_f q2 h
        refine q_aload_n hX dL_law_940 rfl ?_
        refine q_iload hX dL_law_941 rfl ?_
        refine q_iconst hX dL_law_943 (v := (nI 1)) (by decide) ?_
        refine q_iadd hX dL_law_944 ?_
        refine q_SLw_f hX hR hN hS (w_L_greatestIncome hf  h) lk_LW_286 dL_law_945 rfl rfl (Nat.le_of_ble_eq_true rfl) (Nat.le_of_lt_succ (by omega)) (Nat.le_of_lt_succ (by omega)) (Nat.le_of_lt_succ (by omega)) ?_
        intro x3 I4 h
        refine q_ldcf hX kc_L_93 dL_law_948 ?_
        refine q_fcmp hX dL_law_950 ?_
        refine q_if_ne hX dL_law_951 (tgt := 979) (by decide) (fun q5 => ?_) (fun q5 => ?_)
        · replace h := ite_f q5 h
          refine q_iconst hX dL_law_979 (v := (nI 0)) (by decide) ?_
          exact hE dL_law_980 (Nat.le_of_lt_succ (by omega)) (Nat.le_of_lt_succ (by omega)) h
        · replace h := ite_t q5 h
          exact q_dr (hx954 (Nat.le_of_lt_succ (by omega)) (Nat.le_of_lt_succ (by omega)) _ _ _ _ _ _ _ _ _ _ _ hzv11 hcv11 hv12 h) ⟨Or.inl rfl, Or.inl rfl, Or.inl rfl, Or.inl rfl, Or.inl rfl, Or.inl rfl, Or.inl rfl, Or.inl rfl, Or.inl rfl, Or.inl rfl, Or.inl rfl, Or.inl rfl, Or.inl rfl, Or.inr rfl, Or.inl rfl, Or.inl rfl, Or.inl rfl, Or.inl rfl, Or.inl rfl, Or.inl rfl, Or.inl rfl, trivial⟩
    · replace h := ite_f q1 h
      refine q_fconst0 hX dL_law_836 ?_
      refine q_fstore hX dL_law_837 (by decide) (ls' := [_, _, _, _, _, _, _, _, _, _, _, _, _, _, _, _, _, _, _, _, _]) rfl ?_
      refine q_iconst hX dL_law_839 (v := (nI 0)) (by decide) ?_
      refine q_istore hX dL_law_840 (by decide) (ls' := [_, _, _, _, _, _, _, _, _, _, _, _, _, _, _, _, _, _, _, _, _]) rfl ?_
      exact q_dr (w_L_law_b842 hf hX hR hN hS hE  (r829 := (n * 402 + 1 + r954)) (s829 := (n * 2412 + 6 + s954)) (fun {_ _} hc_ hw_ _ _ _ _ _ _ _ _ _ _ _ _ hzv11 hcv11 hv12 h => ih (Nat.le_of_lt_succ (by omega)) (Nat.le_of_lt_succ (by omega)) _ _ _ _ _ _ _ _ _ _ _ _ hzv11 hcv11 hv12 h) _  (Nat.le_of_lt_succ (by omega)) (Nat.le_of_lt_succ (by omega)) _ _ _ _ _ _ _ _ _ _ _ _ _ _ hzv11 hcv11 hv12 h) ⟨Or.inl rfl, Or.inl rfl, Or.inl rfl, Or.inl rfl, Or.inl rfl, Or.inl rfl, Or.inl rfl, Or.inl rfl, Or.inl rfl, Or.inl rfl, Or.inl rfl, Or.inl rfl, Or.inl rfl, Or.inl rfl, Or.inl rfl, Or.inl rfl, Or.inl rfl, Or.inl rfl, Or.inl rfl, Or.inl rfl, Or.inl rfl, trivial⟩
set_option maxRecDepth 100000 in
set_option maxHeartbeats 4000000 in
theorem w_L_law_b1109 {X : XT} {D : DT} {l : Launch} {L : LT} {xs : Nat → Int32} {nn : Nat} {K : Int32 → IT → Prop} {X15 : Int32 → IT → Prop} (hf : l.stackTraces = false) (hX : OK X D cL_law "TeaHouseLaw" 21) (hR : Room2 X l D 14 730279 6904340) (hN : NCX X) (hS : ScrX X D nn xs) (hE : EndAt X D L K 730279 6904340) {r15 s15 : Nat} (hx15 : ∀ {c w : Nat}, c + r15 ≤ 730279 → w + s15 ≤ 6904340 → ∀ (v2 : Int32) (I : IT), X15 v2 I → J2 X D 21 c w I L 15 [.ref 1000300, .ref 0, .int v2, .retAddr 0, .retAddr 0, .retAddr 0, .retAddr 0, .retAddr 0, .retAddr 0, .retAddr 0, .retAddr 0, .retAddr 0, .retAddr 0, .retAddr 0, .retAddr 0, .retAddr 0, .retAddr 0, .retAddr 0, .retAddr 0, .retAddr 0, .retAddr 0] []) : ∀ {c w : Nat}, c + (5 + r15) ≤ 730279 → w + (30 + s15) ≤ 6904340 → ∀ (v2 : Int32) (v3 : Int32) (v4 : Int32) (v5 : Int32) (I : IT), f_L_law_b1109 xs nn X15 K v2 v3 v4 v5 I → J2 X D 21 c w I L 1109 [.ref 1000300, .ref 0, .int v2, .int v3, .int v4, .int v5, .retAddr 0, .retAddr 0, .retAddr 0, .retAddr 0, .retAddr 0, .retAddr 0, .retAddr 0, .retAddr 0, .retAddr 0, .retAddr 0, .retAddr 0, .retAddr 0, .retAddr 0, .retAddr 0, .retAddr 0] [] := by
  intro c w hc hw v2 v3 v4 v5 I h
  rw [f_L_law_b1109] at h
  refine q_aload_n hX dL_law_1109 rfl ?_
  refine q_iload_n hX dL_law_1110 rfl ?_
  refine q_SLw_i hX hR hN hS (w_L_kettleByTemperature hf  h) lk_LW_325 dL_law_1111 rfl rfl (Nat.le_of_ble_eq_true rfl) (Nat.le_of_lt_succ (by omega)) (Nat.le_of_lt_succ (by omega)) (Nat.le_of_lt_succ (by omega)) ?_
  intro x1 I2 h
  refine q_sipush hX dL_law_1114 (v := (-30000)) (by decide) ?_
  refine q_icmp_ne hX dL_law_1117 (tgt := 1153) (by decide) (fun q3 => ?_) (fun q3 => ?_)
  · replace h := ite_f q3 h
    refine q_iconst hX dL_law_1153 (v := (nI 0)) (by decide) ?_
    exact hE dL_law_1154 (Nat.le_of_lt_succ (by omega)) (Nat.le_of_lt_succ (by omega)) h
  · replace h := ite_t q3 h
    refine q_aload_n hX dL_law_1120 rfl ?_
    refine q_iload hX dL_law_1121 rfl ?_
    refine q_SLw_i hX hR hN hS (w_L_orderAt hf  h) lk_LW_327 dL_law_1123 rfl rfl (Nat.le_of_ble_eq_true rfl) (Nat.le_of_lt_succ (by omega)) (Nat.le_of_lt_succ (by omega)) (Nat.le_of_lt_succ (by omega)) ?_
    intro x4 I5 h
    refine q_sipush hX dL_law_1126 (v := (-30000)) (by decide) ?_
    refine q_icmp_ne hX dL_law_1129 (tgt := 1153) (by decide) (fun q6 => ?_) (fun q6 => ?_)
    · replace h := ite_f q6 h
      refine q_iconst hX dL_law_1153 (v := (nI 0)) (by decide) ?_
      exact hE dL_law_1154 (Nat.le_of_lt_succ (by omega)) (Nat.le_of_lt_succ (by omega)) h
    · replace h := ite_t q6 h
      refine q_aload_n hX dL_law_1132 rfl ?_
      refine q_iload hX dL_law_1133 rfl ?_
      refine q_SLw_i hX hR hN hS (w_L_nightByIncome hf  h) lk_LW_329 dL_law_1135 rfl rfl (Nat.le_of_ble_eq_true rfl) (Nat.le_of_lt_succ (by omega)) (Nat.le_of_lt_succ (by omega)) (Nat.le_of_lt_succ (by omega)) ?_
      intro x7 I8 h
      refine q_sipush hX dL_law_1138 (v := (-30000)) (by decide) ?_
      refine q_icmp_ne hX dL_law_1141 (tgt := 1153) (by decide) (fun q9 => ?_) (fun q9 => ?_)
      · replace h := ite_f q9 h
        refine q_iconst hX dL_law_1153 (v := (nI 0)) (by decide) ?_
        exact hE dL_law_1154 (Nat.le_of_lt_succ (by omega)) (Nat.le_of_lt_succ (by omega)) h
      · replace h := ite_t q9 h
        refine q_aload_n hX dL_law_1144 rfl ?_
        refine q_V_ip hX hR (w_X8_undoableCount  h) lk_L_331 (rc2_of (ci := 9) rfl rfl) dL_law_1145 rfl rfl (Nat.le_of_ble_eq_true rfl) (Nat.le_of_lt_succ (by omega)) (Nat.le_of_lt_succ (by omega)) (Nat.le_of_lt_succ (by omega)) ?_
        intro x10 h
        refine q_bipush hX dL_law_1148 (v := (nI 8)) (by decide) ?_
        refine q_icmp_le hX dL_law_1150 (tgt := 1155) (by decide) (fun q11 => ?_) (fun q11 => ?_)
        · replace h := ite_t q11 h
          refine q_aload_n hX dL_law_1155 rfl ?_
          refine q_aload_n hX dL_law_1156 rfl ?_
          refine q_bipush hX dL_law_1157 (v := (nI 96)) (by decide) ?_
          refine q_iconst hX dL_law_1159 (v := (nI 4)) (by decide) ?_
          refine q_iload_n hX dL_law_1160 rfl ?_
          refine q_imul hX dL_law_1161 ?_
          refine q_iadd hX dL_law_1162 ?_
          refine q_SL_v hX hR hN hS (w_L_acts hf  h) lk_L_110 dL_law_1163 rfl rfl (Nat.le_of_ble_eq_true rfl) (Nat.le_of_lt_succ (by omega)) (Nat.le_of_lt_succ (by omega)) (Nat.le_of_lt_succ (by omega)) ?_
          intro I12 h
          replace h := bnd_e h
          refine q_iinc hX dL_law_1166 (by decide) rfl (v := _ + nI 1) (ls' := [_, _, _, _, _, _, _, _, _, _, _, _, _, _, _, _, _, _, _, _, _]) rfl rfl ?_
          refine q_goto hX dL_law_1169 (tgt := 15) (by decide) ?_
          exact q_dr (hx15 (Nat.le_of_lt_succ (by omega)) (Nat.le_of_lt_succ (by omega)) _ _  h) ⟨Or.inl rfl, Or.inl rfl, Or.inl rfl, Or.inr rfl, Or.inr rfl, Or.inr rfl, Or.inl rfl, Or.inl rfl, Or.inl rfl, Or.inl rfl, Or.inl rfl, Or.inl rfl, Or.inl rfl, Or.inl rfl, Or.inl rfl, Or.inl rfl, Or.inl rfl, Or.inl rfl, Or.inl rfl, Or.inl rfl, Or.inl rfl, trivial⟩
        · replace h := ite_f q11 h
          refine q_iconst hX dL_law_1153 (v := (nI 0)) (by decide) ?_
          exact hE dL_law_1154 (Nat.le_of_lt_succ (by omega)) (Nat.le_of_lt_succ (by omega)) h
set_option maxRecDepth 100000 in
set_option maxHeartbeats 4000000 in
theorem w_L_law_b954 {X : XT} {D : DT} {l : Launch} {L : LT} {xs : Nat → Int32} {nn : Nat} {K : Int32 → IT → Prop} {X15 : Int32 → IT → Prop} (hf : l.stackTraces = false) (hX : OK X D cL_law "TeaHouseLaw" 21) (hR : Room2 X l D 14 730279 6904340) (hN : NCX X) (hS : ScrX X D nn xs) (hE : EndAt X D L K 730279 6904340) {r15 s15 : Nat} (hx15 : ∀ {c w : Nat}, c + r15 ≤ 730279 → w + s15 ≤ 6904340 → ∀ (v2 : Int32) (I : IT), X15 v2 I → J2 X D 21 c w I L 15 [.ref 1000300, .ref 0, .int v2, .retAddr 0, .retAddr 0, .retAddr 0, .retAddr 0, .retAddr 0, .retAddr 0, .retAddr 0, .retAddr 0, .retAddr 0, .retAddr 0, .retAddr 0, .retAddr 0, .retAddr 0, .retAddr 0, .retAddr 0, .retAddr 0, .retAddr 0, .retAddr 0] []) : ∀ {c w : Nat}, c + (238 + r15) ≤ 730279 → w + (10848 + s15) ≤ 6904340 → ∀ (v2 : Int32) (v3 : Int32) (v4 : Int32) (v5 : Int32) (v6 : Int32) (v7 : UInt32) (v8 : UInt32) (v9 : UInt64) (v11 : Int32) (v12 : Nat) (I : IT), isZ v11 → isC v11 → isTx v12 → f_L_law_b954 xs nn X15 K v2 v3 v4 v5 v6 v7 v8 v9 v11 v12 I → J2 X D 21 c w I L 954 [.ref 1000300, .ref 0, .int v2, .int v3, .int v4, .int v5, .int v6, .float v7, .float v8, .double v9, .retAddr 0, .int v11, .ref v12, .retAddr 0, .retAddr 0, .retAddr 0, .retAddr 0, .retAddr 0, .retAddr 0, .retAddr 0, .retAddr 0] [] := by
  intro c w hc hw v2 v3 v4 v5 v6 v7 v8 v9 v11 v12 I hzv11 hcv11 hv12 h
  rw [f_L_law_b954] at h
  refine q_aload_n hX dL_law_954 rfl ?_
  refine q_bipush hX dL_law_955 (v := (nI 15)) (by decide) ?_
  refine q_SLw_f hX hR hN hS (w_L_greatestIncomeBySums hf  h) lk_LW_288 dL_law_957 rfl rfl (Nat.le_of_ble_eq_true rfl) (Nat.le_of_lt_succ (by omega)) (Nat.le_of_lt_succ (by omega)) (Nat.le_of_lt_succ (by omega)) ?_
  intro x1 I2 h
  refine q_ldcf hX kc_L_30 dL_law_960 ?_
  refine q_fcmp hX dL_law_962 ?_
  refine q_if_ne hX dL_law_963 (tgt := 979) (by decide) (fun q3 => ?_) (fun q3 => ?_)
  · replace h := ite_f q3 h
    refine q_iconst hX dL_law_979 (v := (nI 0)) (by decide) ?_
    exact hE dL_law_980 (Nat.le_of_lt_succ (by omega)) (Nat.le_of_lt_succ (by omega)) h
  · replace h := ite_t q3 h
    refine q_aload_n hX dL_law_966 rfl ?_
    refine q_aload_n hX dL_law_967 rfl ?_
    refine q_V_i hX hR (w_X8_formatLedger  h) lk_L_290 (rc2_of (ci := 9) rfl rfl) dL_law_968 rfl rfl (Nat.le_of_ble_eq_true rfl) (Nat.le_of_lt_succ (by omega)) (Nat.le_of_lt_succ (by omega)) (Nat.le_of_lt_succ (by omega)) ?_
    intro x4 I5 h
    refine q_aload hX dL_law_971 rfl ?_
    refine q_SL_z hX hR hN hS (w_L_isLine hf hv12 h) lk_L_250 dL_law_973 rfl rfl (Nat.le_of_ble_eq_true rfl) (Nat.le_of_lt_succ (by omega)) (Nat.le_of_lt_succ (by omega)) (Nat.le_of_lt_succ (by omega)) ?_
    intro x6 I7 hrx6 h
    refine q_if_ne hX dL_law_976 (tgt := 981) (by decide) (fun q8 => ?_) (fun q8 => ?_)
    · replace h := ite_f q8 h
      refine q_aload_n hX dL_law_981 rfl ?_
      refine q_V_zp hX hR (w_X8_canServe  h) lk_L_293 (rc2_of (ci := 9) rfl rfl) dL_law_982 rfl rfl (Nat.le_of_ble_eq_true rfl) (Nat.le_of_lt_succ (by omega)) (Nat.le_of_lt_succ (by omega)) (Nat.le_of_lt_succ (by omega)) ?_
      intro x9 hrx9 h
      refine q_iload hX dL_law_985 rfl ?_
      refine q_icmp_ne hX dL_law_987 (tgt := 1153) (by decide) (fun q10 => ?_) (fun q10 => ?_)
      · replace h := ite_f q10 h
        refine q_iconst hX dL_law_1153 (v := (nI 0)) (by decide) ?_
        exact hE dL_law_1154 (Nat.le_of_lt_succ (by omega)) (Nat.le_of_lt_succ (by omega)) h
      · replace h := ite_t q10 h
        refine q_aload_n hX dL_law_990 rfl ?_
        refine q_V_ip hX hR (w_X8_cleanCups  h) lk_L_276 (rc2_of (ci := 9) rfl rfl) dL_law_991 rfl rfl (Nat.le_of_ble_eq_true rfl) (Nat.le_of_lt_succ (by omega)) (Nat.le_of_lt_succ (by omega)) (Nat.le_of_lt_succ (by omega)) ?_
        intro x11 h
        refine q_if_lt hX dL_law_994 (tgt := 1153) (by decide) (fun q12 => ?_) (fun q12 => ?_)
        · replace h := ite_t q12 h
          refine q_iconst hX dL_law_1153 (v := (nI 0)) (by decide) ?_
          exact hE dL_law_1154 (Nat.le_of_lt_succ (by omega)) (Nat.le_of_lt_succ (by omega)) h
        · replace h := ite_f q12 h
          refine q_aload_n hX dL_law_997 rfl ?_
          refine q_V_ip hX hR (w_X8_cleanCups  h) lk_L_276 (rc2_of (ci := 9) rfl rfl) dL_law_998 rfl rfl (Nat.le_of_ble_eq_true rfl) (Nat.le_of_lt_succ (by omega)) (Nat.le_of_lt_succ (by omega)) (Nat.le_of_lt_succ (by omega)) ?_
          intro x13 h
          refine q_bipush hX dL_law_1001 (v := (nI 20)) (by decide) ?_
          refine q_icmp_gt hX dL_law_1003 (tgt := 1153) (by decide) (fun q14 => ?_) (fun q14 => ?_)
          · replace h := ite_t q14 h
            refine q_iconst hX dL_law_1153 (v := (nI 0)) (by decide) ?_
            exact hE dL_law_1154 (Nat.le_of_lt_succ (by omega)) (Nat.le_of_lt_succ (by omega)) h
          · replace h := ite_f q14 h
            refine q_aload_n hX dL_law_1006 rfl ?_
            refine q_V_fp hX hR (w_X8_filledTotal  h) lk_L_297 (rc2_of (ci := 9) rfl rfl) dL_law_1007 rfl rfl (Nat.le_of_ble_eq_true rfl) (Nat.le_of_lt_succ (by omega)) (Nat.le_of_lt_succ (by omega)) (Nat.le_of_lt_succ (by omega)) ?_
            intro x15 h
            refine q_fload hX dL_law_1010 rfl ?_
            refine q_aload_n hX dL_law_1012 rfl ?_
            refine q_V_fp hX hR (w_X8_pouredTotal  h) lk_L_300 (rc2_of (ci := 9) rfl rfl) dL_law_1013 rfl rfl (Nat.le_of_ble_eq_true rfl) (Nat.le_of_lt_succ (by omega)) (Nat.le_of_lt_succ (by omega)) (Nat.le_of_lt_succ (by omega)) ?_
            intro x16 h
            obtain ⟨z17, h⟩ := h
            refine q_fadd hX dL_law_1016 z17 ?_
            refine q_aload_n hX dL_law_1017 rfl ?_
            refine q_V_fp hX hR (w_X8_boiledTotal  h) lk_L_303 (rc2_of (ci := 9) rfl rfl) dL_law_1018 rfl rfl (Nat.le_of_ble_eq_true rfl) (Nat.le_of_lt_succ (by omega)) (Nat.le_of_lt_succ (by omega)) (Nat.le_of_lt_succ (by omega)) ?_
            intro x18 h
            obtain ⟨z19, h⟩ := h
            refine q_fadd hX dL_law_1021 z19 ?_
            refine q_fcmp hX dL_law_1022 ?_
            refine q_if_ne hX dL_law_1023 (tgt := 1153) (by decide) (fun q20 => ?_) (fun q20 => ?_)
            · replace h := ite_f q20 h
              refine q_iconst hX dL_law_1153 (v := (nI 0)) (by decide) ?_
              exact hE dL_law_1154 (Nat.le_of_lt_succ (by omega)) (Nat.le_of_lt_succ (by omega)) h
            · replace h := ite_t q20 h
              refine q_aload_n hX dL_law_1026 rfl ?_
              refine q_V_fp hX hR (w_X8_steam  h) lk_L_306 (rc2_of (ci := 9) rfl rfl) dL_law_1027 rfl rfl (Nat.le_of_ble_eq_true rfl) (Nat.le_of_lt_succ (by omega)) (Nat.le_of_lt_succ (by omega)) (Nat.le_of_lt_succ (by omega)) ?_
              intro x21 h
              refine q_aload_n hX dL_law_1030 rfl ?_
              refine q_V_fp hX hR (w_X8_boiledTotal  h) lk_L_303 (rc2_of (ci := 9) rfl rfl) dL_law_1031 rfl rfl (Nat.le_of_ble_eq_true rfl) (Nat.le_of_lt_succ (by omega)) (Nat.le_of_lt_succ (by omega)) (Nat.le_of_lt_succ (by omega)) ?_
              intro x22 h
              refine q_fcmp hX dL_law_1034 ?_
              refine q_if_gt hX dL_law_1035 (tgt := 1153) (by decide) (fun q23 => ?_) (fun q23 => ?_)
              · replace h := ite_t q23 h
                refine q_iconst hX dL_law_1153 (v := (nI 0)) (by decide) ?_
                exact hE dL_law_1154 (Nat.le_of_lt_succ (by omega)) (Nat.le_of_lt_succ (by omega)) h
              · replace h := ite_f q23 h
                refine q_aload_n hX dL_law_1038 rfl ?_
                refine q_V_fp hX hR (w_X8_steam  h) lk_L_306 (rc2_of (ci := 9) rfl rfl) dL_law_1039 rfl rfl (Nat.le_of_ble_eq_true rfl) (Nat.le_of_lt_succ (by omega)) (Nat.le_of_lt_succ (by omega)) (Nat.le_of_lt_succ (by omega)) ?_
                intro x24 h
                refine q_fconst0 hX dL_law_1042 ?_
                refine q_fcmp hX dL_law_1043 ?_
                refine q_if_lt hX dL_law_1044 (tgt := 1153) (by decide) (fun q25 => ?_) (fun q25 => ?_)
                · replace h := ite_t q25 h
                  refine q_iconst hX dL_law_1153 (v := (nI 0)) (by decide) ?_
                  exact hE dL_law_1154 (Nat.le_of_lt_succ (by omega)) (Nat.le_of_lt_succ (by omega)) h
                · replace h := ite_f q25 h
                  refine q_aload_n hX dL_law_1047 rfl ?_
                  refine q_V_fp hX hR (w_X8_totalIncome  h) lk_L_309 (rc2_of (ci := 9) rfl rfl) dL_law_1048 rfl rfl (Nat.le_of_ble_eq_true rfl) (Nat.le_of_lt_succ (by omega)) (Nat.le_of_lt_succ (by omega)) (Nat.le_of_lt_succ (by omega)) ?_
                  intro x26 h
                  refine q_fload hX dL_law_1051 rfl ?_
                  refine q_fcmp hX dL_law_1053 ?_
                  refine q_if_ne hX dL_law_1054 (tgt := 1153) (by decide) (fun q27 => ?_) (fun q27 => ?_)
                  · replace h := ite_f q27 h
                    refine q_iconst hX dL_law_1153 (v := (nI 0)) (by decide) ?_
                    exact hE dL_law_1154 (Nat.le_of_lt_succ (by omega)) (Nat.le_of_lt_succ (by omega)) h
                  · replace h := ite_t q27 h
                    refine q_aload_n hX dL_law_1057 rfl ?_
                    refine q_V_fp hX hR (w_X8_totalIncomeBySales  h) lk_L_312 (rc2_of (ci := 9) rfl rfl) dL_law_1058 rfl rfl (Nat.le_of_ble_eq_true rfl) (Nat.le_of_lt_succ (by omega)) (Nat.le_of_lt_succ (by omega)) (Nat.le_of_lt_succ (by omega)) ?_
                    intro x28 h
                    refine q_fload hX dL_law_1061 rfl ?_
                    refine q_fcmp hX dL_law_1063 ?_
                    refine q_if_ne hX dL_law_1064 (tgt := 1153) (by decide) (fun q29 => ?_) (fun q29 => ?_)
                    · replace h := ite_f q29 h
                      refine q_iconst hX dL_law_1153 (v := (nI 0)) (by decide) ?_
                      exact hE dL_law_1154 (Nat.le_of_lt_succ (by omega)) (Nat.le_of_lt_succ (by omega)) h
                    · replace h := ite_t q29 h
                      refine q_aload_n hX dL_law_1067 rfl ?_
                      refine q_V_z hX hR (w_X8_isBalanced  h) lk_L_315 (rc2_of (ci := 9) rfl rfl) dL_law_1068 rfl rfl (Nat.le_of_ble_eq_true rfl) (Nat.le_of_lt_succ (by omega)) (Nat.le_of_lt_succ (by omega)) (Nat.le_of_lt_succ (by omega)) ?_
                      intro x30 I31 hrx30 h
                      refine q_if_eq hX dL_law_1071 (tgt := 1153) (by decide) (fun q32 => ?_) (fun q32 => ?_)
                      · replace h := ite_t q32 h
                        refine q_iconst hX dL_law_1153 (v := (nI 0)) (by decide) ?_
                        exact hE dL_law_1154 (Nat.le_of_lt_succ (by omega)) (Nat.le_of_lt_succ (by omega)) h
                      · replace h := ite_f q32 h
                        refine q_aload_n hX dL_law_1074 rfl ?_
                        refine q_W_dp hX hR (w_X8_meanTemperature hf  h) lk_L_318 (rc2_of (ci := 9) rfl rfl) dL_law_1075 rfl rfl (Nat.le_of_ble_eq_true rfl) (Nat.le_of_lt_succ (by omega)) (Nat.le_of_lt_succ (by omega)) (Nat.le_of_lt_succ (by omega)) ?_ ?_
                        rotate_left
                        · intro E h
                          exact False.elim h
                        intro x33 h
                        refine q_dload hX dL_law_1078 rfl ?_
                        refine q_iload_n hX dL_law_1080 rfl ?_
                        refine q_i2d hX dL_law_1081 ?_
                        obtain ⟨z34, h⟩ := h
                        refine q_ddiv hX dL_law_1082 z34 ?_
                        refine q_dcmp hX dL_law_1083 ?_
                        refine q_if_ne hX dL_law_1084 (tgt := 1153) (by decide) (fun q35 => ?_) (fun q35 => ?_)
                        · replace h := ite_f q35 h
                          refine q_iconst hX dL_law_1153 (v := (nI 0)) (by decide) ?_
                          exact hE dL_law_1154 (Nat.le_of_lt_succ (by omega)) (Nat.le_of_lt_succ (by omega)) h
                        · replace h := ite_t q35 h
                          refine q_iload hX dL_law_1087 rfl ?_
                          refine q_if_le hX dL_law_1089 (tgt := 1109) (by decide) (fun q36 => ?_) (fun q36 => ?_)
                          · replace h := ite_t q36 h
                            exact q_dr (w_L_law_b1109 hf hX hR hN hS hE  (r15 := r15) (s15 := s15) hx15  (Nat.le_of_lt_succ (by omega)) (Nat.le_of_lt_succ (by omega)) _ _ _ _ _  h) ⟨Or.inl rfl, Or.inl rfl, Or.inl rfl, Or.inl rfl, Or.inl rfl, Or.inl rfl, Or.inr rfl, Or.inr rfl, Or.inr rfl, Or.inr rfl, Or.inl rfl, Or.inr rfl, Or.inr rfl, Or.inl rfl, Or.inl rfl, Or.inl rfl, Or.inl rfl, Or.inl rfl, Or.inl rfl, Or.inl rfl, Or.inl rfl, trivial⟩
                          · replace h := ite_f q36 h
                            refine q_aload_n hX dL_law_1092 rfl ?_
                            refine q_W_fp hX hR (w_X8_lostShare hf  h) lk_L_322 (rc2_of (ci := 9) rfl rfl) dL_law_1093 rfl rfl (Nat.le_of_ble_eq_true rfl) (Nat.le_of_lt_succ (by omega)) (Nat.le_of_lt_succ (by omega)) (Nat.le_of_lt_succ (by omega)) ?_ ?_
                            rotate_left
                            · intro E h
                              exact False.elim h
                            intro x37 h
                            refine q_aload_n hX dL_law_1096 rfl ?_
                            refine q_V_ip hX hR (w_X8_whistlesLost  h) lk_L_180 (rc2_of (ci := 9) rfl rfl) dL_law_1097 rfl rfl (Nat.le_of_ble_eq_true rfl) (Nat.le_of_lt_succ (by omega)) (Nat.le_of_lt_succ (by omega)) (Nat.le_of_lt_succ (by omega)) ?_
                            intro x38 h
                            refine q_i2f hX dL_law_1100 ?_
                            refine q_iload hX dL_law_1101 rfl ?_
                            refine q_i2f hX dL_law_1103 ?_
                            obtain ⟨z39, h⟩ := h
                            refine q_fdiv hX dL_law_1104 z39 ?_
                            refine q_fcmp hX dL_law_1105 ?_
                            refine q_if_ne hX dL_law_1106 (tgt := 1153) (by decide) (fun q40 => ?_) (fun q40 => ?_)
                            · replace h := ite_f q40 h
                              refine q_iconst hX dL_law_1153 (v := (nI 0)) (by decide) ?_
                              exact hE dL_law_1154 (Nat.le_of_lt_succ (by omega)) (Nat.le_of_lt_succ (by omega)) h
                            · replace h := ite_t q40 h
                              exact q_dr (w_L_law_b1109 hf hX hR hN hS hE  (r15 := r15) (s15 := s15) hx15  (Nat.le_of_lt_succ (by omega)) (Nat.le_of_lt_succ (by omega)) _ _ _ _ _  h) ⟨Or.inl rfl, Or.inl rfl, Or.inl rfl, Or.inl rfl, Or.inl rfl, Or.inl rfl, Or.inr rfl, Or.inr rfl, Or.inr rfl, Or.inr rfl, Or.inl rfl, Or.inr rfl, Or.inr rfl, Or.inl rfl, Or.inl rfl, Or.inl rfl, Or.inl rfl, Or.inl rfl, Or.inl rfl, Or.inl rfl, Or.inl rfl, trivial⟩
    · replace h := ite_t q8 h
      refine q_iconst hX dL_law_979 (v := (nI 0)) (by decide) ?_
      exact hE dL_law_980 (Nat.le_of_lt_succ (by omega)) (Nat.le_of_lt_succ (by omega)) h
set_option maxRecDepth 100000 in
set_option maxHeartbeats 4000000 in
theorem w_L_law_b668 {X : XT} {D : DT} {l : Launch} {L : LT} {xs : Nat → Int32} {nn : Nat} {K : Int32 → IT → Prop} {X15 : Int32 → IT → Prop} (hf : l.stackTraces = false) (hX : OK X D cL_law "TeaHouseLaw" 21) (hR : Room2 X l D 14 730279 6904340) (hN : NCX X) (hS : ScrX X D nn xs) (hE : EndAt X D L K 730279 6904340) {r15 s15 : Nat} (hx15 : ∀ {c w : Nat}, c + r15 ≤ 730279 → w + s15 ≤ 6904340 → ∀ (v2 : Int32) (I : IT), X15 v2 I → J2 X D 21 c w I L 15 [.ref 1000300, .ref 0, .int v2, .retAddr 0, .retAddr 0, .retAddr 0, .retAddr 0, .retAddr 0, .retAddr 0, .retAddr 0, .retAddr 0, .retAddr 0, .retAddr 0, .retAddr 0, .retAddr 0, .retAddr 0, .retAddr 0, .retAddr 0, .retAddr 0, .retAddr 0, .retAddr 0] []) : ∀ {c w : Nat}, c + (8539 + r15) ≤ 730279 → w + (82814 + s15) ≤ 6904340 → ∀ (v2 : Int32) (v3 : Int32) (v4 : Int32) (v5 : Int32) (v6 : Int32) (v7 : UInt32) (v8 : UInt32) (v9 : UInt64) (I : IT), f_L_law_b668 xs nn X15 K v2 v3 v4 v5 v6 v7 v8 v9 I → J2 X D 21 c w I L 668 [.ref 1000300, .ref 0, .int v2, .int v3, .int v4, .int v5, .int v6, .float v7, .float v8, .double v9, .retAddr 0, .retAddr 0, .retAddr 0, .retAddr 0, .retAddr 0, .retAddr 0, .retAddr 0, .retAddr 0, .retAddr 0, .retAddr 0, .retAddr 0] [] := by
  intro c w hc hw v2 v3 v4 v5 v6 v7 v8 v9 I h
  rw [f_L_law_b668] at h
  refine q_iconst hX dL_law_668 (v := (nI 0)) (by decide) ?_
  refine q_istore hX dL_law_669 (by decide) (ls' := [_, _, _, _, _, _, _, _, _, _, _, _, _, _, _, _, _, _, _, _, _]) rfl ?_
  refine q_iconst hX dL_law_671 (v := (nI 0)) (by decide) ?_
  refine q_istore hX dL_law_672 (by decide) (ls' := [_, _, _, _, _, _, _, _, _, _, _, _, _, _, _, _, _, _, _, _, _]) rfl ?_
  exact q_dr (w_L_law_b674 hf hX hR hN hS hE  (r769 := (20 * 8 + 0 + (20 * 402 + 1 + (238 + r15)))) (s769 := (20 * 1156 + 0 + (20 * 2412 + 6 + (10848 + s15)))) (fun {_ _} hc_ hw_ _ _ _ _ _ _ _ _ _ _ _ _ hzv11 hcv11 hv12 h => w_L_law_b769 hf hX hR hN hS hE  (r829 := (20 * 402 + 1 + (238 + r15))) (s829 := (20 * 2412 + 6 + (10848 + s15))) (fun {_ _} hc_ hw_ _ _ _ _ _ _ _ _ _ _ _ _ hzv11 hcv11 hv12 h => w_L_law_b829 hf hX hR hN hS hE  (r954 := (238 + r15)) (s954 := (10848 + s15)) (fun {_ _} hc_ hw_ _ _ _ _ _ _ _ _ _ _ _ hzv11 hcv11 hv12 h => w_L_law_b954 hf hX hR hN hS hE  (r15 := r15) (s15 := s15) hx15  (Nat.le_of_lt_succ (by omega)) (Nat.le_of_lt_succ (by omega)) _ _ _ _ _ _ _ _ _ _ _ hzv11 hcv11 hv12 h) _  (Nat.le_of_lt_succ (by omega)) (Nat.le_of_lt_succ (by omega)) _ _ _ _ _ _ _ _ _ _ _ _ hzv11 hcv11 hv12 h) _  (Nat.le_of_lt_succ (by omega)) (Nat.le_of_lt_succ (by omega)) _ _ _ _ _ _ _ _ _ _ _ _ hzv11 hcv11 hv12 h) _  (Nat.le_of_lt_succ (by omega)) (Nat.le_of_lt_succ (by omega)) _ _ _ _ _ _ _ _ _ _ _ (Or.inl rfl) (isC_n (by decide)) h) ⟨Or.inl rfl, Or.inl rfl, Or.inl rfl, Or.inl rfl, Or.inl rfl, Or.inl rfl, Or.inl rfl, Or.inl rfl, Or.inl rfl, Or.inl rfl, Or.inl rfl, Or.inl rfl, Or.inl rfl, Or.inl rfl, Or.inl rfl, Or.inl rfl, Or.inl rfl, Or.inl rfl, Or.inl rfl, Or.inl rfl, Or.inl rfl, trivial⟩
set_option maxRecDepth 100000 in
set_option maxHeartbeats 4000000 in
theorem w_L_law_b15 {X : XT} {D : DT} {l : Launch} {L : LT} {xs : Nat → Int32} {nn : Nat} {K : Int32 → IT → Prop} (hf : l.stackTraces = false) (hX : OK X D cL_law "TeaHouseLaw" 21) (hR : Room2 X l D 14 730279 6904340) (hN : NCX X) (hS : ScrX X D nn xs) (hE : EndAt X D L K 730279 6904340)  : ∀ (n : Nat), ∀ {c w : Nat}, c + (n * 21048 + 0) ≤ 730279 → w + (n * 273564 + 0) ≤ 6904340 → ∀ (v2 : Int32) (I : IT), f_L_law_b15 xs nn K n v2 I → J2 X D 21 c w I L 15 [.ref 1000300, .ref 0, .int v2, .retAddr 0, .retAddr 0, .retAddr 0, .retAddr 0, .retAddr 0, .retAddr 0, .retAddr 0, .retAddr 0, .retAddr 0, .retAddr 0, .retAddr 0, .retAddr 0, .retAddr 0, .retAddr 0, .retAddr 0, .retAddr 0, .retAddr 0, .retAddr 0] [] := by
  intro n
  induction n with
  | zero => intro c w hc hw v2 I h; exact False.elim h
  | succ n ih =>
    intro c w hc hw v2 I h
    rw [f_L_law_b15] at h
    refine q_iload_n hX dL_law_15 rfl ?_
    refine q_iconst hX dL_law_16 (v := (nI 4)) (by decide) ?_
    refine q_icmp_ge hX dL_law_17 (tgt := 1172) (by decide) (fun q1 => ?_) (fun q1 => ?_)
    · replace h := ite_t q1 h
      refine q_iconst hX dL_law_1172 (v := (nI 1)) (by decide) ?_
      exact hE dL_law_1173 (Nat.le_of_lt_succ (by omega)) (Nat.le_of_lt_succ (by omega)) h
    · replace h := ite_f q1 h
      refine q_aload_n hX dL_law_20 rfl ?_
      refine q_V_ip hX hR (w_X8_kettleCount  h) lk_L_114 (rc2_of (ci := 9) rfl rfl) dL_law_21 rfl rfl (Nat.le_of_ble_eq_true rfl) (Nat.le_of_lt_succ (by omega)) (Nat.le_of_lt_succ (by omega)) (Nat.le_of_lt_succ (by omega)) ?_
      intro x2 h
      refine q_istore_n hX dL_law_24 (by decide) (ls' := [_, _, _, _, _, _, _, _, _, _, _, _, _, _, _, _, _, _, _, _, _]) rfl ?_
      refine q_aload_n hX dL_law_25 rfl ?_
      refine q_V_ip hX hR (w_X8_waitingCount  h) lk_L_117 (rc2_of (ci := 9) rfl rfl) dL_law_26 rfl rfl (Nat.le_of_ble_eq_true rfl) (Nat.le_of_lt_succ (by omega)) (Nat.le_of_lt_succ (by omega)) (Nat.le_of_lt_succ (by omega)) ?_
      intro x3 h
      refine q_istore hX dL_law_29 (by decide) (ls' := [_, _, _, _, _, _, _, _, _, _, _, _, _, _, _, _, _, _, _, _, _]) rfl ?_
      refine q_aload_n hX dL_law_31 rfl ?_
      refine q_V_ip hX hR (w_X8_nightCount  h) lk_L_174 (rc2_of (ci := 9) rfl rfl) dL_law_32 rfl rfl (Nat.le_of_ble_eq_true rfl) (Nat.le_of_lt_succ (by omega)) (Nat.le_of_lt_succ (by omega)) (Nat.le_of_lt_succ (by omega)) ?_
      intro x4 h
      refine q_istore hX dL_law_35 (by decide) (ls' := [_, _, _, _, _, _, _, _, _, _, _, _, _, _, _, _, _, _, _, _, _]) rfl ?_
      refine q_aload_n hX dL_law_37 rfl ?_
      refine q_V_ip hX hR (w_X8_whistlesHeard  h) lk_L_177 (rc2_of (ci := 9) rfl rfl) dL_law_38 rfl rfl (Nat.le_of_ble_eq_true rfl) (Nat.le_of_lt_succ (by omega)) (Nat.le_of_lt_succ (by omega)) (Nat.le_of_lt_succ (by omega)) ?_
      intro x5 h
      refine q_aload_n hX dL_law_41 rfl ?_
      refine q_V_ip hX hR (w_X8_whistlesLost  h) lk_L_180 (rc2_of (ci := 9) rfl rfl) dL_law_42 rfl rfl (Nat.le_of_ble_eq_true rfl) (Nat.le_of_lt_succ (by omega)) (Nat.le_of_lt_succ (by omega)) (Nat.le_of_lt_succ (by omega)) ?_
      intro x6 h
      refine q_iadd hX dL_law_45 ?_
      replace h := bnd_e h
      refine q_istore hX dL_law_46 (by decide) (ls' := [_, _, _, _, _, _, _, _, _, _, _, _, _, _, _, _, _, _, _, _, _]) rfl ?_
      refine q_fconst0 hX dL_law_48 ?_
      refine q_fstore hX dL_law_49 (by decide) (ls' := [_, _, _, _, _, _, _, _, _, _, _, _, _, _, _, _, _, _, _, _, _]) rfl ?_
      refine q_aload_n hX dL_law_51 rfl ?_
      refine q_V_fp hX hR (w_X8_income  h) lk_L_183 (rc2_of (ci := 9) rfl rfl) dL_law_52 rfl rfl (Nat.le_of_ble_eq_true rfl) (Nat.le_of_lt_succ (by omega)) (Nat.le_of_lt_succ (by omega)) (Nat.le_of_lt_succ (by omega)) ?_
      intro x8 h
      refine q_fstore hX dL_law_55 (by decide) (ls' := [_, _, _, _, _, _, _, _, _, _, _, _, _, _, _, _, _, _, _, _, _]) rfl ?_
      refine q_dconst0 hX dL_law_57 ?_
      refine q_dstore hX dL_law_58 (by decide) (ls' := [_, _, _, _, _, _, _, _, _, _, _, _, _, _, _, _, _, _, _, _, _]) rfl ?_
      refine q_iconst hX dL_law_60 (v := (nI 0)) (by decide) ?_
      refine q_istore hX dL_law_61 (by decide) (ls' := [_, _, _, _, _, _, _, _, _, _, _, _, _, _, _, _, _, _, _, _, _]) rfl ?_
      exact q_dr (w_L_law_b63 hf hX hR hN hS hE  (r502 := (16 * 656 + 5 + (max ((8539 + (n * 21048 + 0))) ((20 * 5 + 0 + (20 * 8 + 0 + (20 * 402 + 1 + (238 + (n * 21048 + 0))))))))) (s502 := (16 * 7076 + 30 + (max ((82814 + (n * 273564 + 0))) ((20 * 30 + 0 + (20 * 1156 + 0 + (20 * 2412 + 6 + (10848 + (n * 273564 + 0))))))))) (fun {_ _} hc_ hw_ _ _ _ _ _ _ _ _ _ _ h => w_L_law_b502 hf hX hR hN hS hE  (r668 := (8539 + (n * 21048 + 0))) (s668 := (82814 + (n * 273564 + 0))) (r674 := (20 * 5 + 0 + (20 * 8 + 0 + (20 * 402 + 1 + (238 + (n * 21048 + 0)))))) (s674 := (20 * 30 + 0 + (20 * 1156 + 0 + (20 * 2412 + 6 + (10848 + (n * 273564 + 0)))))) (fun {_ _} hc_ hw_ _ _ _ _ _ _ _ _ _ h => w_L_law_b668 hf hX hR hN hS hE  (r15 := (n * 21048 + 0)) (s15 := (n * 273564 + 0)) (fun {_ _} hc_ hw_ _ _ h => ih (Nat.le_of_lt_succ (by omega)) (Nat.le_of_lt_succ (by omega)) _ _  h)  (Nat.le_of_lt_succ (by omega)) (Nat.le_of_lt_succ (by omega)) _ _ _ _ _ _ _ _ _  h) (fun {_ _} hc_ hw_ _ _ _ _ _ _ _ _ _ _ _ hzv11 hcv11 h => w_L_law_b674 hf hX hR hN hS hE  (r769 := (20 * 8 + 0 + (20 * 402 + 1 + (238 + (n * 21048 + 0))))) (s769 := (20 * 1156 + 0 + (20 * 2412 + 6 + (10848 + (n * 273564 + 0))))) (fun {_ _} hc_ hw_ _ _ _ _ _ _ _ _ _ _ _ _ hzv11 hcv11 hv12 h => w_L_law_b769 hf hX hR hN hS hE  (r829 := (20 * 402 + 1 + (238 + (n * 21048 + 0)))) (s829 := (20 * 2412 + 6 + (10848 + (n * 273564 + 0)))) (fun {_ _} hc_ hw_ _ _ _ _ _ _ _ _ _ _ _ _ hzv11 hcv11 hv12 h => w_L_law_b829 hf hX hR hN hS hE  (r954 := (238 + (n * 21048 + 0))) (s954 := (10848 + (n * 273564 + 0))) (fun {_ _} hc_ hw_ _ _ _ _ _ _ _ _ _ _ _ hzv11 hcv11 hv12 h => w_L_law_b954 hf hX hR hN hS hE  (r15 := (n * 21048 + 0)) (s15 := (n * 273564 + 0)) (fun {_ _} hc_ hw_ _ _ h => ih (Nat.le_of_lt_succ (by omega)) (Nat.le_of_lt_succ (by omega)) _ _  h)  (Nat.le_of_lt_succ (by omega)) (Nat.le_of_lt_succ (by omega)) _ _ _ _ _ _ _ _ _ _ _ hzv11 hcv11 hv12 h) _  (Nat.le_of_lt_succ (by omega)) (Nat.le_of_lt_succ (by omega)) _ _ _ _ _ _ _ _ _ _ _ _ hzv11 hcv11 hv12 h) _  (Nat.le_of_lt_succ (by omega)) (Nat.le_of_lt_succ (by omega)) _ _ _ _ _ _ _ _ _ _ _ _ hzv11 hcv11 hv12 h) _  (Nat.le_of_lt_succ (by omega)) (Nat.le_of_lt_succ (by omega)) _ _ _ _ _ _ _ _ _ _ _ hzv11 hcv11 h) _  (Nat.le_of_lt_succ (by omega)) (Nat.le_of_lt_succ (by omega)) _ _ _ _ _ _ _ _ _ _  h) _  (Nat.le_of_lt_succ (by omega)) (Nat.le_of_lt_succ (by omega)) _ _ _ _ _ _ _ _ _ _  h) ⟨Or.inl rfl, Or.inl rfl, Or.inl rfl, Or.inl rfl, Or.inl rfl, Or.inl rfl, Or.inl rfl, Or.inl rfl, Or.inl rfl, Or.inl rfl, Or.inl rfl, Or.inl rfl, Or.inl rfl, Or.inl rfl, Or.inl rfl, Or.inl rfl, Or.inl rfl, Or.inl rfl, Or.inl rfl, Or.inl rfl, Or.inl rfl, trivial⟩
set_option maxRecDepth 100000 in
set_option maxHeartbeats 4000000 in
theorem w_L_law {X : XT} {D : DT} {l : Launch} {L : LT} {xs : Nat → Int32} {nn : Nat} {I : IT} {K : Int32 → IT → Prop} {c w : Nat} (hf : l.stackTraces = false) (hX : OK X D cL_law "TeaHouseLaw" 21) (hR : Room2 X l D 14 730279 6904340) (hN : NCX X) (hS : ScrX X D nn xs) (hE : EndAt X D L K 730279 6904340) (hc : c + 168472 ≤ 730279) (hw : w + 2189040 ≤ 6904340) (h : f_L_law xs nn I K) : J2 X D 21 c w I L 8 [.ref 1000300, .ref 0, .retAddr 0, .retAddr 0, .retAddr 0, .retAddr 0, .retAddr 0, .retAddr 0, .retAddr 0, .retAddr 0, .retAddr 0, .retAddr 0, .retAddr 0, .retAddr 0, .retAddr 0, .retAddr 0, .retAddr 0, .retAddr 0, .retAddr 0, .retAddr 0, .retAddr 0] [] := by
  rw [f_L_law] at h
  refine q_aload_n hX dL_law_8 rfl ?_
  refine q_aload_n hX dL_law_9 rfl ?_
  refine q_SL_v hX hR hN hS (w_L_build hf  h) lk_L_170 dL_law_10 rfl rfl (Nat.le_of_ble_eq_true rfl) (Nat.le_of_lt_succ (by omega)) (Nat.le_of_lt_succ (by omega)) (Nat.le_of_lt_succ (by omega)) ?_
  intro I1 h
  refine q_iconst hX dL_law_13 (v := (nI 0)) (by decide) ?_
  refine q_istore_n hX dL_law_14 (by decide) (ls' := [_, _, _, _, _, _, _, _, _, _, _, _, _, _, _, _, _, _, _, _, _]) rfl ?_
  exact q_dr (w_L_law_b15 hf hX hR hN hS hE    _  (Nat.le_of_lt_succ (by omega)) (Nat.le_of_lt_succ (by omega)) _ _  h) ⟨Or.inl rfl, Or.inl rfl, Or.inl rfl, Or.inl rfl, Or.inl rfl, Or.inl rfl, Or.inl rfl, Or.inl rfl, Or.inl rfl, Or.inl rfl, Or.inl rfl, Or.inl rfl, Or.inl rfl, Or.inl rfl, Or.inl rfl, Or.inl rfl, Or.inl rfl, Or.inl rfl, Or.inl rfl, Or.inl rfl, Or.inl rfl, trivial⟩
