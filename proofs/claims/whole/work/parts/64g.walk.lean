set_option maxRecDepth 100000 in
set_option maxHeartbeats 4000000 in
theorem w_L_addKettle {l : Launch} {D : DT} {L : LT} {a1 : Int32} {I : IT} {K : Int32 → IT → LT → Prop} (hf : l.stackTraces = false)  (h : f_L_addKettle a1 I L K) : ConW l D m_L_addKettle [(0, 9, 12, 13), (0, 9, 15, 15)] 9 [.ref 0, .int a1, .ref 195] 1 6 I L (PL K) := by
  refine ConW.of (by decide +kernel) (by simp [Value.category]) (Nat.le_of_ble_eq_true rfl) (fun X hX hT hN hB => ?_)
  have hX : OK X D cL_addKettle "TeaHouseLaw" 4 := hX
  have hT : RTL X l D (some .int) (P2 (PL K)) 9 1 6 := hT
  have hR := hT.1
  change J2 X D 4 0 0 I L 0 [.ref 0, .int a1, .ref 195, .retAddr 0] []
  rw [f_L_addKettle] at h
  refine q_aload_n hX dL_addKettle_0 rfl ?_
  refine q_iconst hX dL_addKettle_1 (v := (nI 0)) (by decide) ?_
  refine q_aload_n hX dL_addKettle_2 rfl ?_
  refine q_iload_n hX dL_addKettle_3 rfl ?_
  refine q_W_i hX hR (w_X8_addKettle hf  h) lk_L_7 (rc2_of (ci := 9) rfl rfl) dL_addKettle_4 rfl rfl (Nat.le_of_ble_eq_true rfl) (by omega) (by omega) (by omega) ?_ ?_
  rotate_left
  · intro E I9_ h
    refine q_cs (k := "java/lang/IllegalArgumentException") (fun e0_ => ?_) (fun e0_ => ?_)
    · replace h := ite_t e0_ h
      subst e0_
      refine q_catchN hX hN hB 0 rfl rfl rfl (by decide +kernel) cl_L_13 ca_13 (by decide +kernel) dL_addKettle_12 (by decide) ?_
      refine q_iconst hX dL_addKettle_13 (v := (nI 1)) (by decide) ?_
      exact q_iretL hX hT dL_addKettle_14 h (by omega) (by omega)
    replace h := ite_f e0_ h
    refine q_cs (k := "java/lang/IllegalStateException") (fun e1_ => ?_) (fun e1_ => ?_)
    · replace h := ite_t e1_ h
      subst e1_
      refine q_catchN hX hN hB 1 rfl rfl rfl (by decide +kernel) cl_L_15 ca_15 (by decide +kernel) dL_addKettle_15 (by decide) ?_
      refine q_iconst hX dL_addKettle_16 (v := (nI 2)) (by decide) ?_
      exact q_iretL hX hT dL_addKettle_17 h (by omega) (by omega)
    replace h := ite_f e1_ h
    exact False.elim h
  intro x1 I2 h
  refine q_i2l hX dL_addKettle_7 rfl ?_
  replace h := wrL_e h
  refine q_last hX dL_addKettle_8 ?_
  generalize (up2 _ _ _ _, Prod.snd _) = L3 at h ⊢
  refine q_goto hX dL_addKettle_9 (tgt := 18) (by decide) ?_
  refine q_iconst hX dL_addKettle_18 (v := (nI 0)) (by decide) ?_
  exact q_iretL hX hT dL_addKettle_19 h (by omega) (by omega)
set_option maxRecDepth 100000 in
set_option maxHeartbeats 4000000 in
theorem w_L_fill {l : Launch} {D : DT} {L : LT} {a1 : Int32} {a2 : Int32} {I : IT} {K : Int32 → IT → LT → Prop} (hf : l.stackTraces = false)  (h : f_L_fill a1 a2 I L K) : ConW l D m_L_fill [(0, 10, 13, 21), (0, 10, 17, 13), (0, 10, 21, 15)] 9 [.ref 0, .int a1, .int a2, .ref 196] 1 6 I L (PL K) := by
  refine ConW.of (by decide +kernel) (by simp [Value.category]) (Nat.le_of_ble_eq_true rfl) (fun X hX hT hN hB => ?_)
  have hX : OK X D cL_fill "TeaHouseLaw" 5 := hX
  have hT : RTL X l D (some .int) (P2 (PL K)) 9 1 6 := hT
  have hR := hT.1
  change J2 X D 5 0 0 I L 0 [.ref 0, .int a1, .int a2, .ref 196, .retAddr 0] []
  rw [f_L_fill] at h
  refine q_aload_n hX dL_fill_0 rfl ?_
  refine q_iconst hX dL_fill_1 (v := (nI 0)) (by decide) ?_
  refine q_aload_n hX dL_fill_2 rfl ?_
  refine q_iload_n hX dL_fill_3 rfl ?_
  refine q_iload_n hX dL_fill_4 rfl ?_
  refine q_W_f hX hR (w_X8_fill hf  h) lk_L_17 (rc2_of (ci := 9) rfl rfl) dL_fill_5 rfl rfl (Nat.le_of_ble_eq_true rfl) (by omega) (by omega) (by omega) ?_ ?_
  rotate_left
  · intro E I9_ h
    refine q_cs (k := "java/lang/IndexOutOfBoundsException") (fun e0_ => ?_) (fun e0_ => ?_)
    · replace h := ite_t e0_ h
      subst e0_
      refine q_catch hX hN hB 0 rfl rfl rfl (by decide +kernel) cl_L_21 ca_21 (by decide +kernel) dL_fill_13 (by decide) ?_
      refine q_iconst hX dL_fill_15 (v := (nI 1)) (by decide) ?_
      exact q_iretL hX hT dL_fill_16 h (by omega) (by omega)
    replace h := ite_f e0_ h
    refine q_cs (k := "java/lang/IllegalArgumentException") (fun e1_ => ?_) (fun e1_ => ?_)
    · replace h := ite_t e1_ h
      subst e1_
      refine q_catch hX hN hB 1 rfl rfl rfl (by decide +kernel) cl_L_13 ca_13 (by decide +kernel) dL_fill_17 (by decide) ?_
      refine q_iconst hX dL_fill_19 (v := (nI 2)) (by decide) ?_
      exact q_iretL hX hT dL_fill_20 h (by omega) (by omega)
    replace h := ite_f e1_ h
    refine q_cs (k := "java/lang/IllegalStateException") (fun e2_ => ?_) (fun e2_ => ?_)
    · replace h := ite_t e2_ h
      subst e2_
      refine q_catch hX hN hB 2 rfl rfl rfl (by decide +kernel) cl_L_15 ca_15 (by decide +kernel) dL_fill_21 (by decide) ?_
      refine q_iconst hX dL_fill_23 (v := (nI 3)) (by decide) ?_
      exact q_iretL hX hT dL_fill_24 h (by omega) (by omega)
    replace h := ite_f e2_ h
    exact False.elim h
  intro x1 I2 h
  obtain ⟨z3, h⟩ := h
  refine q_f2d hX dL_fill_8 z3 ?_
  replace h := wrD_e h
  refine q_dast hX dL_fill_9 ?_
  generalize (Prod.fst _, up2 _ _ _ _) = L4 at h ⊢
  refine q_goto hX dL_fill_10 (tgt := 25) (by decide) ?_
  refine q_iconst hX dL_fill_25 (v := (nI 0)) (by decide) ?_
  exact q_iretL hX hT dL_fill_26 h (by omega) (by omega)
set_option maxRecDepth 100000 in
set_option maxHeartbeats 4000000 in
theorem w_L_setBurner {l : Launch} {D : DT} {L : LT} {a1 : Int32} {a2 : Int32} {I : IT} {K : Int32 → IT → LT → Prop} (hf : l.stackTraces = false)  (h : f_L_setBurner a1 a2 I L K) : ConW l D m_L_setBurner [(0, 10, 13, 21), (0, 10, 17, 13)] 9 [.ref 0, .int a1, .int a2, .ref 195] 1 6 I L (PL K) := by
  refine ConW.of (by decide +kernel) (by simp [Value.category]) (Nat.le_of_ble_eq_true rfl) (fun X hX hT hN hB => ?_)
  have hX : OK X D cL_setBurner "TeaHouseLaw" 5 := hX
  have hT : RTL X l D (some .int) (P2 (PL K)) 9 1 6 := hT
  have hR := hT.1
  change J2 X D 5 0 0 I L 0 [.ref 0, .int a1, .int a2, .ref 195, .retAddr 0] []
  rw [f_L_setBurner] at h
  refine q_aload_n hX dL_setBurner_0 rfl ?_
  refine q_iconst hX dL_setBurner_1 (v := (nI 0)) (by decide) ?_
  refine q_aload_n hX dL_setBurner_2 rfl ?_
  refine q_iload_n hX dL_setBurner_3 rfl ?_
  refine q_iload_n hX dL_setBurner_4 rfl ?_
  refine q_W_i hX hR (w_X8_setBurner hf  h) lk_L_23 (rc2_of (ci := 9) rfl rfl) dL_setBurner_5 rfl rfl (Nat.le_of_ble_eq_true rfl) (by omega) (by omega) (by omega) ?_ ?_
  rotate_left
  · intro E I9_ h
    refine q_cs (k := "java/lang/IndexOutOfBoundsException") (fun e0_ => ?_) (fun e0_ => ?_)
    · replace h := ite_t e0_ h
      subst e0_
      refine q_catch hX hN hB 0 rfl rfl rfl (by decide +kernel) cl_L_21 ca_21 (by decide +kernel) dL_setBurner_13 (by decide) ?_
      refine q_iconst hX dL_setBurner_15 (v := (nI 1)) (by decide) ?_
      exact q_iretL hX hT dL_setBurner_16 h (by omega) (by omega)
    replace h := ite_f e0_ h
    refine q_cs (k := "java/lang/IllegalArgumentException") (fun e1_ => ?_) (fun e1_ => ?_)
    · replace h := ite_t e1_ h
      subst e1_
      refine q_catch hX hN hB 1 rfl rfl rfl (by decide +kernel) cl_L_13 ca_13 (by decide +kernel) dL_setBurner_17 (by decide) ?_
      refine q_iconst hX dL_setBurner_19 (v := (nI 2)) (by decide) ?_
      exact q_iretL hX hT dL_setBurner_20 h (by omega) (by omega)
    replace h := ite_f e1_ h
    exact False.elim h
  intro x1 I2 h
  refine q_i2l hX dL_setBurner_8 rfl ?_
  replace h := wrL_e h
  refine q_last hX dL_setBurner_9 ?_
  generalize (up2 _ _ _ _, Prod.snd _) = L3 at h ⊢
  refine q_goto hX dL_setBurner_10 (tgt := 21) (by decide) ?_
  refine q_iconst hX dL_setBurner_21 (v := (nI 0)) (by decide) ?_
  exact q_iretL hX hT dL_setBurner_22 h (by omega) (by omega)
set_option maxRecDepth 100000 in
set_option maxHeartbeats 4000000 in
theorem w_L_order {l : Launch} {D : DT} {L : LT} {a1 : Int32} {a2 : Int32} {a3 : Int32} {a4 : Int32} {I : IT} {K : Int32 → IT → LT → Prop} (hf : l.stackTraces = false)  (h : f_L_order a1 a2 a3 a4 I L K) : ConW l D m_L_order [(0, 14, 17, 13), (0, 14, 21, 15)] 9 [.ref 0, .int a1, .int a2, .int a3, .int a4, .ref 195] 1 6 I L (PL K) := by
  refine ConW.of (by decide +kernel) (by simp [Value.category]) (Nat.le_of_ble_eq_true rfl) (fun X hX hT hN hB => ?_)
  have hX : OK X D cL_order "TeaHouseLaw" 7 := hX
  have hT : RTL X l D (some .int) (P2 (PL K)) 9 1 6 := hT
  have hR := hT.1
  change J2 X D 7 0 0 I L 0 [.ref 0, .int a1, .int a2, .int a3, .int a4, .ref 195, .retAddr 0] []
  rw [f_L_order] at h
  refine q_aload hX dL_order_0 rfl ?_
  refine q_iconst hX dL_order_2 (v := (nI 0)) (by decide) ?_
  refine q_aload_n hX dL_order_3 rfl ?_
  refine q_iload_n hX dL_order_4 rfl ?_
  refine q_iload_n hX dL_order_5 rfl ?_
  refine q_iload_n hX dL_order_6 rfl ?_
  refine q_iload hX dL_order_7 rfl ?_
  refine q_W_i hX hR (w_X8_order hf  h) lk_L_27 (rc2_of (ci := 9) rfl rfl) dL_order_9 rfl rfl (Nat.le_of_ble_eq_true rfl) (by omega) (by omega) (by omega) ?_ ?_
  rotate_left
  · intro E I9_ h
    refine q_cs (k := "java/lang/IllegalArgumentException") (fun e0_ => ?_) (fun e0_ => ?_)
    · replace h := ite_t e0_ h
      subst e0_
      refine q_catch hX hN hB 0 rfl rfl rfl (by decide +kernel) cl_L_13 ca_13 (by decide +kernel) dL_order_17 (by decide) ?_
      refine q_iconst hX dL_order_19 (v := (nI 1)) (by decide) ?_
      exact q_iretL hX hT dL_order_20 h (by omega) (by omega)
    replace h := ite_f e0_ h
    refine q_cs (k := "java/lang/IllegalStateException") (fun e1_ => ?_) (fun e1_ => ?_)
    · replace h := ite_t e1_ h
      subst e1_
      refine q_catch hX hN hB 1 rfl rfl rfl (by decide +kernel) cl_L_15 ca_15 (by decide +kernel) dL_order_21 (by decide) ?_
      refine q_iconst hX dL_order_23 (v := (nI 2)) (by decide) ?_
      exact q_iretL hX hT dL_order_24 h (by omega) (by omega)
    replace h := ite_f e1_ h
    exact False.elim h
  intro x1 I2 h
  refine q_i2l hX dL_order_12 rfl ?_
  replace h := wrL_e h
  refine q_last hX dL_order_13 ?_
  generalize (up2 _ _ _ _, Prod.snd _) = L3 at h ⊢
  refine q_goto hX dL_order_14 (tgt := 25) (by decide) ?_
  refine q_iconst hX dL_order_25 (v := (nI 0)) (by decide) ?_
  exact q_iretL hX hT dL_order_26 h (by omega) (by omega)
set_option maxRecDepth 100000 in
set_option maxHeartbeats 4000000 in
theorem w_L_cancel {l : Launch} {D : DT} {L : LT} {a1 : Int32} {I : IT} {K : Int32 → IT → LT → Prop} (hf : l.stackTraces = false)  (h : f_L_cancel a1 I L K) : ConW l D m_L_cancel [(0, 9, 12, 34)] 9 [.ref 0, .int a1, .ref 195] 1 6 I L (PL K) := by
  refine ConW.of (by decide +kernel) (by simp [Value.category]) (Nat.le_of_ble_eq_true rfl) (fun X hX hT hN hB => ?_)
  have hX : OK X D cL_cancel "TeaHouseLaw" 4 := hX
  have hT : RTL X l D (some .int) (P2 (PL K)) 9 1 6 := hT
  have hR := hT.1
  change J2 X D 4 0 0 I L 0 [.ref 0, .int a1, .ref 195, .retAddr 0] []
  rw [f_L_cancel] at h
  refine q_aload_n hX dL_cancel_0 rfl ?_
  refine q_iconst hX dL_cancel_1 (v := (nI 0)) (by decide) ?_
  refine q_aload_n hX dL_cancel_2 rfl ?_
  refine q_iload_n hX dL_cancel_3 rfl ?_
  refine q_W_i hX hR (w_X8_cancel hf  h) lk_L_31 (rc2_of (ci := 9) rfl rfl) dL_cancel_4 rfl rfl (Nat.le_of_ble_eq_true rfl) (by omega) (by omega) (by omega) ?_ ?_
  rotate_left
  · intro E I9_ h
    refine q_cs (k := "java/util/NoSuchElementException") (fun e0_ => ?_) (fun e0_ => ?_)
    · replace h := ite_t e0_ h
      subst e0_
      refine q_catchN hX hN hB 0 rfl rfl rfl (by decide +kernel) cl_L_34 ca_34 (by decide +kernel) dL_cancel_12 (by decide) ?_
      refine q_iconst hX dL_cancel_13 (v := (nI 1)) (by decide) ?_
      exact q_iretL hX hT dL_cancel_14 h (by omega) (by omega)
    replace h := ite_f e0_ h
    exact False.elim h
  intro x1 I2 h
  refine q_i2l hX dL_cancel_7 rfl ?_
  replace h := wrL_e h
  refine q_last hX dL_cancel_8 ?_
  generalize (up2 _ _ _ _, Prod.snd _) = L3 at h ⊢
  refine q_goto hX dL_cancel_9 (tgt := 15) (by decide) ?_
  refine q_iconst hX dL_cancel_15 (v := (nI 0)) (by decide) ?_
  exact q_iretL hX hT dL_cancel_16 h (by omega) (by omega)
set_option maxRecDepth 100000 in
set_option maxHeartbeats 4000000 in
theorem w_L_serveNext {l : Launch} {D : DT} {L : LT}  {I : IT} {K : Int32 → IT → LT → Prop} (hf : l.stackTraces = false)  (h : f_L_serveNext  I L K) : ConW l D m_L_serveNext [(0, 8, 11, 15)] 9 [.ref 0, .ref 195] 1 6 I L (PL K) := by
  refine ConW.of (by decide +kernel) (by simp [Value.category]) (Nat.le_of_ble_eq_true rfl) (fun X hX hT hN hB => ?_)
  have hX : OK X D cL_serveNext "TeaHouseLaw" 3 := hX
  have hT : RTL X l D (some .int) (P2 (PL K)) 9 1 6 := hT
  have hR := hT.1
  change J2 X D 3 0 0 I L 0 [.ref 0, .ref 195, .retAddr 0] []
  rw [f_L_serveNext] at h
  refine q_aload_n hX dL_serveNext_0 rfl ?_
  refine q_iconst hX dL_serveNext_1 (v := (nI 0)) (by decide) ?_
  refine q_aload_n hX dL_serveNext_2 rfl ?_
  refine q_W_i hX hR (w_X8_serveNext hf  h) lk_L_36 (rc2_of (ci := 9) rfl rfl) dL_serveNext_3 rfl rfl (Nat.le_of_ble_eq_true rfl) (by omega) (by omega) (by omega) ?_ ?_
  rotate_left
  · intro E I9_ h
    refine q_cs (k := "java/lang/IllegalStateException") (fun e0_ => ?_) (fun e0_ => ?_)
    · replace h := ite_t e0_ h
      subst e0_
      refine q_catchN hX hN hB 0 rfl rfl rfl (by decide +kernel) cl_L_15 ca_15 (by decide +kernel) dL_serveNext_11 (by decide) ?_
      refine q_iconst hX dL_serveNext_12 (v := (nI 1)) (by decide) ?_
      exact q_iretL hX hT dL_serveNext_13 h (by omega) (by omega)
    replace h := ite_f e0_ h
    exact False.elim h
  intro x1 I2 h
  refine q_i2l hX dL_serveNext_6 rfl ?_
  replace h := wrL_e h
  refine q_last hX dL_serveNext_7 ?_
  generalize (up2 _ _ _ _, Prod.snd _) = L3 at h ⊢
  refine q_goto hX dL_serveNext_8 (tgt := 14) (by decide) ?_
  refine q_iconst hX dL_serveNext_14 (v := (nI 0)) (by decide) ?_
  exact q_iretL hX hT dL_serveNext_15 h (by omega) (by omega)
set_option maxRecDepth 100000 in
set_option maxHeartbeats 4000000 in
theorem w_L_wash {l : Launch} {D : DT} {L : LT} {a1 : Int32} {I : IT} {K : Int32 → IT → LT → Prop} (hf : l.stackTraces = false)  (h : f_L_wash a1 I L K) : ConW l D m_L_wash [(0, 9, 12, 13), (0, 9, 15, 15)] 9 [.ref 0, .int a1, .ref 195] 1 6 I L (PL K) := by
  refine ConW.of (by decide +kernel) (by simp [Value.category]) (Nat.le_of_ble_eq_true rfl) (fun X hX hT hN hB => ?_)
  have hX : OK X D cL_wash "TeaHouseLaw" 4 := hX
  have hT : RTL X l D (some .int) (P2 (PL K)) 9 1 6 := hT
  have hR := hT.1
  change J2 X D 4 0 0 I L 0 [.ref 0, .int a1, .ref 195, .retAddr 0] []
  rw [f_L_wash] at h
  refine q_aload_n hX dL_wash_0 rfl ?_
  refine q_iconst hX dL_wash_1 (v := (nI 0)) (by decide) ?_
  refine q_aload_n hX dL_wash_2 rfl ?_
  refine q_iload_n hX dL_wash_3 rfl ?_
  refine q_W_i hX hR (w_X8_wash hf  h) lk_L_40 (rc2_of (ci := 9) rfl rfl) dL_wash_4 rfl rfl (Nat.le_of_ble_eq_true rfl) (by omega) (by omega) (by omega) ?_ ?_
  rotate_left
  · intro E I9_ h
    refine q_cs (k := "java/lang/IllegalArgumentException") (fun e0_ => ?_) (fun e0_ => ?_)
    · replace h := ite_t e0_ h
      subst e0_
      refine q_catchN hX hN hB 0 rfl rfl rfl (by decide +kernel) cl_L_13 ca_13 (by decide +kernel) dL_wash_12 (by decide) ?_
      refine q_iconst hX dL_wash_13 (v := (nI 1)) (by decide) ?_
      exact q_iretL hX hT dL_wash_14 h (by omega) (by omega)
    replace h := ite_f e0_ h
    refine q_cs (k := "java/lang/IllegalStateException") (fun e1_ => ?_) (fun e1_ => ?_)
    · replace h := ite_t e1_ h
      subst e1_
      refine q_catchN hX hN hB 1 rfl rfl rfl (by decide +kernel) cl_L_15 ca_15 (by decide +kernel) dL_wash_15 (by decide) ?_
      refine q_iconst hX dL_wash_16 (v := (nI 2)) (by decide) ?_
      exact q_iretL hX hT dL_wash_17 h (by omega) (by omega)
    replace h := ite_f e1_ h
    exact False.elim h
  intro x1 I2 h
  refine q_i2l hX dL_wash_7 rfl ?_
  replace h := wrL_e h
  refine q_last hX dL_wash_8 ?_
  generalize (up2 _ _ _ _, Prod.snd _) = L3 at h ⊢
  refine q_goto hX dL_wash_9 (tgt := 18) (by decide) ?_
  refine q_iconst hX dL_wash_18 (v := (nI 0)) (by decide) ?_
  exact q_iretL hX hT dL_wash_19 h (by omega) (by omega)
set_option maxRecDepth 100000 in
set_option maxHeartbeats 4000000 in
theorem w_L_sellSteam {l : Launch} {D : DT} {L : LT} {a1 : Int32} {I : IT} {K : Int32 → IT → LT → Prop} (hf : l.stackTraces = false)  (h : f_L_sellSteam a1 I L K) : ConW l D m_L_sellSteam [(0, 9, 12, 13), (0, 9, 15, 15)] 9 [.ref 0, .int a1, .ref 196] 1 6 I L (PL K) := by
  refine ConW.of (by decide +kernel) (by simp [Value.category]) (Nat.le_of_ble_eq_true rfl) (fun X hX hT hN hB => ?_)
  have hX : OK X D cL_sellSteam "TeaHouseLaw" 4 := hX
  have hT : RTL X l D (some .int) (P2 (PL K)) 9 1 6 := hT
  have hR := hT.1
  change J2 X D 4 0 0 I L 0 [.ref 0, .int a1, .ref 196, .retAddr 0] []
  rw [f_L_sellSteam] at h
  refine q_aload_n hX dL_sellSteam_0 rfl ?_
  refine q_iconst hX dL_sellSteam_1 (v := (nI 0)) (by decide) ?_
  refine q_aload_n hX dL_sellSteam_2 rfl ?_
  refine q_iload_n hX dL_sellSteam_3 rfl ?_
  refine q_W_f hX hR (w_X8_sellSteam hf  h) lk_L_43 (rc2_of (ci := 9) rfl rfl) dL_sellSteam_4 rfl rfl (Nat.le_of_ble_eq_true rfl) (by omega) (by omega) (by omega) ?_ ?_
  rotate_left
  · intro E I9_ h
    refine q_cs (k := "java/lang/IllegalArgumentException") (fun e0_ => ?_) (fun e0_ => ?_)
    · replace h := ite_t e0_ h
      subst e0_
      refine q_catchN hX hN hB 0 rfl rfl rfl (by decide +kernel) cl_L_13 ca_13 (by decide +kernel) dL_sellSteam_12 (by decide) ?_
      refine q_iconst hX dL_sellSteam_13 (v := (nI 1)) (by decide) ?_
      exact q_iretL hX hT dL_sellSteam_14 h (by omega) (by omega)
    replace h := ite_f e0_ h
    refine q_cs (k := "java/lang/IllegalStateException") (fun e1_ => ?_) (fun e1_ => ?_)
    · replace h := ite_t e1_ h
      subst e1_
      refine q_catchN hX hN hB 1 rfl rfl rfl (by decide +kernel) cl_L_15 ca_15 (by decide +kernel) dL_sellSteam_15 (by decide) ?_
      refine q_iconst hX dL_sellSteam_16 (v := (nI 2)) (by decide) ?_
      exact q_iretL hX hT dL_sellSteam_17 h (by omega) (by omega)
    replace h := ite_f e1_ h
    exact False.elim h
  intro x1 I2 h
  obtain ⟨z3, h⟩ := h
  refine q_f2d hX dL_sellSteam_7 z3 ?_
  replace h := wrD_e h
  refine q_dast hX dL_sellSteam_8 ?_
  generalize (Prod.fst _, up2 _ _ _ _) = L4 at h ⊢
  refine q_goto hX dL_sellSteam_9 (tgt := 18) (by decide) ?_
  refine q_iconst hX dL_sellSteam_18 (v := (nI 0)) (by decide) ?_
  exact q_iretL hX hT dL_sellSteam_19 h (by omega) (by omega)
set_option maxRecDepth 100000 in
set_option maxHeartbeats 4000000 in
theorem w_L_setCupPrice {l : Launch} {D : DT} {L : LT} {a1 : Int32} {I : IT} {K : Int32 → IT → LT → Prop} (hf : l.stackTraces = false)  (h : f_L_setCupPrice a1 I L K) : ConW l D m_L_setCupPrice [(0, 9, 12, 13)] 9 [.ref 0, .int a1, .ref 196] 1 6 I L (PL K) := by
  refine ConW.of (by decide +kernel) (by simp [Value.category]) (Nat.le_of_ble_eq_true rfl) (fun X hX hT hN hB => ?_)
  have hX : OK X D cL_setCupPrice "TeaHouseLaw" 4 := hX
  have hT : RTL X l D (some .int) (P2 (PL K)) 9 1 6 := hT
  have hR := hT.1
  change J2 X D 4 0 0 I L 0 [.ref 0, .int a1, .ref 196, .retAddr 0] []
  rw [f_L_setCupPrice] at h
  refine q_aload_n hX dL_setCupPrice_0 rfl ?_
  refine q_iconst hX dL_setCupPrice_1 (v := (nI 0)) (by decide) ?_
  refine q_aload_n hX dL_setCupPrice_2 rfl ?_
  refine q_iload_n hX dL_setCupPrice_3 rfl ?_
  refine q_W_f hX hR (w_X8_setCupPrice hf  h) lk_L_47 (rc2_of (ci := 9) rfl rfl) dL_setCupPrice_4 rfl rfl (Nat.le_of_ble_eq_true rfl) (by omega) (by omega) (by omega) ?_ ?_
  rotate_left
  · intro E I9_ h
    refine q_cs (k := "java/lang/IllegalArgumentException") (fun e0_ => ?_) (fun e0_ => ?_)
    · replace h := ite_t e0_ h
      subst e0_
      refine q_catchN hX hN hB 0 rfl rfl rfl (by decide +kernel) cl_L_13 ca_13 (by decide +kernel) dL_setCupPrice_12 (by decide) ?_
      refine q_iconst hX dL_setCupPrice_13 (v := (nI 1)) (by decide) ?_
      exact q_iretL hX hT dL_setCupPrice_14 h (by omega) (by omega)
    replace h := ite_f e0_ h
    exact False.elim h
  intro x1 I2 h
  obtain ⟨z3, h⟩ := h
  refine q_f2d hX dL_setCupPrice_7 z3 ?_
  replace h := wrD_e h
  refine q_dast hX dL_setCupPrice_8 ?_
  generalize (Prod.fst _, up2 _ _ _ _) = L4 at h ⊢
  refine q_goto hX dL_setCupPrice_9 (tgt := 15) (by decide) ?_
  refine q_iconst hX dL_setCupPrice_15 (v := (nI 0)) (by decide) ?_
  exact q_iretL hX hT dL_setCupPrice_16 h (by omega) (by omega)
set_option maxRecDepth 100000 in
set_option maxHeartbeats 4000000 in
theorem w_L_setSteamPrice {l : Launch} {D : DT} {L : LT} {a1 : Int32} {I : IT} {K : Int32 → IT → LT → Prop} (hf : l.stackTraces = false)  (h : f_L_setSteamPrice a1 I L K) : ConW l D m_L_setSteamPrice [(0, 9, 12, 13)] 9 [.ref 0, .int a1, .ref 196] 1 6 I L (PL K) := by
  refine ConW.of (by decide +kernel) (by simp [Value.category]) (Nat.le_of_ble_eq_true rfl) (fun X hX hT hN hB => ?_)
  have hX : OK X D cL_setSteamPrice "TeaHouseLaw" 4 := hX
  have hT : RTL X l D (some .int) (P2 (PL K)) 9 1 6 := hT
  have hR := hT.1
  change J2 X D 4 0 0 I L 0 [.ref 0, .int a1, .ref 196, .retAddr 0] []
  rw [f_L_setSteamPrice] at h
  refine q_aload_n hX dL_setSteamPrice_0 rfl ?_
  refine q_iconst hX dL_setSteamPrice_1 (v := (nI 0)) (by decide) ?_
  refine q_aload_n hX dL_setSteamPrice_2 rfl ?_
  refine q_iload_n hX dL_setSteamPrice_3 rfl ?_
  refine q_W_f hX hR (w_X8_setSteamPrice hf  h) lk_L_50 (rc2_of (ci := 9) rfl rfl) dL_setSteamPrice_4 rfl rfl (Nat.le_of_ble_eq_true rfl) (by omega) (by omega) (by omega) ?_ ?_
  rotate_left
  · intro E I9_ h
    refine q_cs (k := "java/lang/IllegalArgumentException") (fun e0_ => ?_) (fun e0_ => ?_)
    · replace h := ite_t e0_ h
      subst e0_
      refine q_catchN hX hN hB 0 rfl rfl rfl (by decide +kernel) cl_L_13 ca_13 (by decide +kernel) dL_setSteamPrice_12 (by decide) ?_
      refine q_iconst hX dL_setSteamPrice_13 (v := (nI 1)) (by decide) ?_
      exact q_iretL hX hT dL_setSteamPrice_14 h (by omega) (by omega)
    replace h := ite_f e0_ h
    exact False.elim h
  intro x1 I2 h
  obtain ⟨z3, h⟩ := h
  refine q_f2d hX dL_setSteamPrice_7 z3 ?_
  replace h := wrD_e h
  refine q_dast hX dL_setSteamPrice_8 ?_
  generalize (Prod.fst _, up2 _ _ _ _) = L4 at h ⊢
  refine q_goto hX dL_setSteamPrice_9 (tgt := 15) (by decide) ?_
  refine q_iconst hX dL_setSteamPrice_15 (v := (nI 0)) (by decide) ?_
  exact q_iretL hX hT dL_setSteamPrice_16 h (by omega) (by omega)
set_option maxRecDepth 100000 in
set_option maxHeartbeats 4000000 in
theorem w_L_pass {l : Launch} {D : DT} {L : LT} {a1 : Int32} {I : IT} {K : Int32 → IT → LT → Prop} (hf : l.stackTraces = false)  (h : f_L_pass a1 I L K) : ConW l D m_L_pass [(0, 9, 12, 13)] 9 [.ref 0, .int a1, .ref 195] 1 6 I L (PL K) := by
  refine ConW.of (by decide +kernel) (by simp [Value.category]) (Nat.le_of_ble_eq_true rfl) (fun X hX hT hN hB => ?_)
  have hX : OK X D cL_pass "TeaHouseLaw" 4 := hX
  have hT : RTL X l D (some .int) (P2 (PL K)) 9 1 6 := hT
  have hR := hT.1
  change J2 X D 4 0 0 I L 0 [.ref 0, .int a1, .ref 195, .retAddr 0] []
  rw [f_L_pass] at h
  refine q_aload_n hX dL_pass_0 rfl ?_
  refine q_iconst hX dL_pass_1 (v := (nI 0)) (by decide) ?_
  refine q_aload_n hX dL_pass_2 rfl ?_
  refine q_iload_n hX dL_pass_3 rfl ?_
  refine q_W_i hX hR (w_X8_pass hf  h) lk_L_53 (rc2_of (ci := 9) rfl rfl) dL_pass_4 rfl rfl (Nat.le_of_ble_eq_true rfl) (by omega) (by omega) (by omega) ?_ ?_
  rotate_left
  · intro E I9_ h
    refine q_cs (k := "java/lang/IllegalArgumentException") (fun e0_ => ?_) (fun e0_ => ?_)
    · replace h := ite_t e0_ h
      subst e0_
      refine q_catchN hX hN hB 0 rfl rfl rfl (by decide +kernel) cl_L_13 ca_13 (by decide +kernel) dL_pass_12 (by decide) ?_
      refine q_iconst hX dL_pass_13 (v := (nI 1)) (by decide) ?_
      exact q_iretL hX hT dL_pass_14 h (by omega) (by omega)
    replace h := ite_f e0_ h
    exact False.elim h
  intro x1 I2 h
  refine q_i2l hX dL_pass_7 rfl ?_
  replace h := wrL_e h
  refine q_last hX dL_pass_8 ?_
  generalize (up2 _ _ _ _, Prod.snd _) = L3 at h ⊢
  refine q_goto hX dL_pass_9 (tgt := 15) (by decide) ?_
  refine q_iconst hX dL_pass_15 (v := (nI 0)) (by decide) ?_
  exact q_iretL hX hT dL_pass_16 h (by omega) (by omega)
set_option maxRecDepth 100000 in
set_option maxHeartbeats 4000000 in
theorem w_L_closeNight {l : Launch} {D : DT} {L : LT}  {I : IT} {K : Int32 → IT → LT → Prop} (hf : l.stackTraces = false)  (h : f_L_closeNight  I L K) : ConW l D m_L_closeNight [(0, 8, 11, 15)] 9 [.ref 0, .ref 196] 1 6 I L (PL K) := by
  refine ConW.of (by decide +kernel) (by simp [Value.category]) (Nat.le_of_ble_eq_true rfl) (fun X hX hT hN hB => ?_)
  have hX : OK X D cL_closeNight "TeaHouseLaw" 3 := hX
  have hT : RTL X l D (some .int) (P2 (PL K)) 9 1 6 := hT
  have hR := hT.1
  change J2 X D 3 0 0 I L 0 [.ref 0, .ref 196, .retAddr 0] []
  rw [f_L_closeNight] at h
  refine q_aload_n hX dL_closeNight_0 rfl ?_
  refine q_iconst hX dL_closeNight_1 (v := (nI 0)) (by decide) ?_
  refine q_aload_n hX dL_closeNight_2 rfl ?_
  refine q_W_f hX hR (w_X8_closeNight hf  h) lk_L_56 (rc2_of (ci := 9) rfl rfl) dL_closeNight_3 rfl rfl (Nat.le_of_ble_eq_true rfl) (by omega) (by omega) (by omega) ?_ ?_
  rotate_left
  · intro E I9_ h
    refine q_cs (k := "java/lang/IllegalStateException") (fun e0_ => ?_) (fun e0_ => ?_)
    · replace h := ite_t e0_ h
      subst e0_
      refine q_catchN hX hN hB 0 rfl rfl rfl (by decide +kernel) cl_L_15 ca_15 (by decide +kernel) dL_closeNight_11 (by decide) ?_
      refine q_iconst hX dL_closeNight_12 (v := (nI 1)) (by decide) ?_
      exact q_iretL hX hT dL_closeNight_13 h (by omega) (by omega)
    replace h := ite_f e0_ h
    exact False.elim h
  intro x1 I2 h
  obtain ⟨z3, h⟩ := h
  refine q_f2d hX dL_closeNight_6 z3 ?_
  replace h := wrD_e h
  refine q_dast hX dL_closeNight_7 ?_
  generalize (Prod.fst _, up2 _ _ _ _) = L4 at h ⊢
  refine q_goto hX dL_closeNight_8 (tgt := 14) (by decide) ?_
  refine q_iconst hX dL_closeNight_14 (v := (nI 0)) (by decide) ?_
  exact q_iretL hX hT dL_closeNight_15 h (by omega) (by omega)
set_option maxRecDepth 100000 in
set_option maxHeartbeats 4000000 in
theorem w_L_capacity {l : Launch} {D : DT} {L : LT} {a1 : Int32} {I : IT} {K : Int32 → IT → LT → Prop} (hf : l.stackTraces = false)  (h : f_L_capacity a1 I L K) : ConW l D m_L_capacity [(0, 9, 12, 21)] 8 [.ref 0, .int a1, .ref 196] 1 6 I L (PL K) := by
  refine ConW.of (by decide +kernel) (by simp [Value.category]) (Nat.le_of_ble_eq_true rfl) (fun X hX hT hN hB => ?_)
  have hX : OK X D cL_capacity "TeaHouseLaw" 4 := hX
  have hT : RTL X l D (some .int) (P2 (PL K)) 8 1 6 := hT
  have hR := hT.1
  change J2 X D 4 0 0 I L 0 [.ref 0, .int a1, .ref 196, .retAddr 0] []
  rw [f_L_capacity] at h
  refine q_aload_n hX dL_capacity_0 rfl ?_
  refine q_iconst hX dL_capacity_1 (v := (nI 0)) (by decide) ?_
  refine q_aload_n hX dL_capacity_2 rfl ?_
  refine q_iload_n hX dL_capacity_3 rfl ?_
  refine q_W_fp hX hR (w_X8_capacity hf  h) lk_L_60 (rc2_of (ci := 9) rfl rfl) dL_capacity_4 rfl rfl (Nat.le_of_ble_eq_true rfl) (by omega) (by omega) (by omega) ?_ ?_
  rotate_left
  · intro E h
    refine q_cs (k := "java/lang/IndexOutOfBoundsException") (fun e0_ => ?_) (fun e0_ => ?_)
    · replace h := ite_t e0_ h
      subst e0_
      refine q_catchN hX hN hB 0 rfl rfl rfl (by decide +kernel) cl_L_21 ca_21 (by decide +kernel) dL_capacity_12 (by decide) ?_
      refine q_iconst hX dL_capacity_13 (v := (nI 1)) (by decide) ?_
      exact q_iretL hX hT dL_capacity_14 h (by omega) (by omega)
    replace h := ite_f e0_ h
    exact False.elim h
  intro x1 h
  obtain ⟨z2, h⟩ := h
  refine q_f2d hX dL_capacity_7 z2 ?_
  replace h := wrD_e h
  refine q_dast hX dL_capacity_8 ?_
  generalize (Prod.fst _, up2 _ _ _ _) = L3 at h ⊢
  refine q_goto hX dL_capacity_9 (tgt := 15) (by decide) ?_
  refine q_iconst hX dL_capacity_15 (v := (nI 0)) (by decide) ?_
  exact q_iretL hX hT dL_capacity_16 h (by omega) (by omega)
set_option maxRecDepth 100000 in
set_option maxHeartbeats 4000000 in
theorem w_L_volume {l : Launch} {D : DT} {L : LT} {a1 : Int32} {I : IT} {K : Int32 → IT → LT → Prop} (hf : l.stackTraces = false)  (h : f_L_volume a1 I L K) : ConW l D m_L_volume [(0, 9, 12, 21)] 8 [.ref 0, .int a1, .ref 196] 1 6 I L (PL K) := by
  refine ConW.of (by decide +kernel) (by simp [Value.category]) (Nat.le_of_ble_eq_true rfl) (fun X hX hT hN hB => ?_)
  have hX : OK X D cL_volume "TeaHouseLaw" 4 := hX
  have hT : RTL X l D (some .int) (P2 (PL K)) 8 1 6 := hT
  have hR := hT.1
  change J2 X D 4 0 0 I L 0 [.ref 0, .int a1, .ref 196, .retAddr 0] []
  rw [f_L_volume] at h
  refine q_aload_n hX dL_volume_0 rfl ?_
  refine q_iconst hX dL_volume_1 (v := (nI 0)) (by decide) ?_
  refine q_aload_n hX dL_volume_2 rfl ?_
  refine q_iload_n hX dL_volume_3 rfl ?_
  refine q_W_fp hX hR (w_X8_volume hf  h) lk_L_63 (rc2_of (ci := 9) rfl rfl) dL_volume_4 rfl rfl (Nat.le_of_ble_eq_true rfl) (by omega) (by omega) (by omega) ?_ ?_
  rotate_left
  · intro E h
    refine q_cs (k := "java/lang/IndexOutOfBoundsException") (fun e0_ => ?_) (fun e0_ => ?_)
    · replace h := ite_t e0_ h
      subst e0_
      refine q_catchN hX hN hB 0 rfl rfl rfl (by decide +kernel) cl_L_21 ca_21 (by decide +kernel) dL_volume_12 (by decide) ?_
      refine q_iconst hX dL_volume_13 (v := (nI 1)) (by decide) ?_
      exact q_iretL hX hT dL_volume_14 h (by omega) (by omega)
    replace h := ite_f e0_ h
    exact False.elim h
  intro x1 h
  obtain ⟨z2, h⟩ := h
  refine q_f2d hX dL_volume_7 z2 ?_
  replace h := wrD_e h
  refine q_dast hX dL_volume_8 ?_
  generalize (Prod.fst _, up2 _ _ _ _) = L3 at h ⊢
  refine q_goto hX dL_volume_9 (tgt := 15) (by decide) ?_
  refine q_iconst hX dL_volume_15 (v := (nI 0)) (by decide) ?_
  exact q_iretL hX hT dL_volume_16 h (by omega) (by omega)
set_option maxRecDepth 100000 in
set_option maxHeartbeats 4000000 in
theorem w_L_temperature {l : Launch} {D : DT} {L : LT} {a1 : Int32} {I : IT} {K : Int32 → IT → LT → Prop} (hf : l.stackTraces = false)  (h : f_L_temperature a1 I L K) : ConW l D m_L_temperature [(0, 9, 12, 21)] 8 [.ref 0, .int a1, .ref 196] 1 6 I L (PL K) := by
  refine ConW.of (by decide +kernel) (by simp [Value.category]) (Nat.le_of_ble_eq_true rfl) (fun X hX hT hN hB => ?_)
  have hX : OK X D cL_temperature "TeaHouseLaw" 4 := hX
  have hT : RTL X l D (some .int) (P2 (PL K)) 8 1 6 := hT
  have hR := hT.1
  change J2 X D 4 0 0 I L 0 [.ref 0, .int a1, .ref 196, .retAddr 0] []
  rw [f_L_temperature] at h
  refine q_aload_n hX dL_temperature_0 rfl ?_
  refine q_iconst hX dL_temperature_1 (v := (nI 0)) (by decide) ?_
  refine q_aload_n hX dL_temperature_2 rfl ?_
  refine q_iload_n hX dL_temperature_3 rfl ?_
  refine q_W_fp hX hR (w_X8_temperature hf  h) lk_L_66 (rc2_of (ci := 9) rfl rfl) dL_temperature_4 rfl rfl (Nat.le_of_ble_eq_true rfl) (by omega) (by omega) (by omega) ?_ ?_
  rotate_left
  · intro E h
    refine q_cs (k := "java/lang/IndexOutOfBoundsException") (fun e0_ => ?_) (fun e0_ => ?_)
    · replace h := ite_t e0_ h
      subst e0_
      refine q_catchN hX hN hB 0 rfl rfl rfl (by decide +kernel) cl_L_21 ca_21 (by decide +kernel) dL_temperature_12 (by decide) ?_
      refine q_iconst hX dL_temperature_13 (v := (nI 1)) (by decide) ?_
      exact q_iretL hX hT dL_temperature_14 h (by omega) (by omega)
    replace h := ite_f e0_ h
    exact False.elim h
  intro x1 h
  obtain ⟨z2, h⟩ := h
  refine q_f2d hX dL_temperature_7 z2 ?_
  replace h := wrD_e h
  refine q_dast hX dL_temperature_8 ?_
  generalize (Prod.fst _, up2 _ _ _ _) = L3 at h ⊢
  refine q_goto hX dL_temperature_9 (tgt := 15) (by decide) ?_
  refine q_iconst hX dL_temperature_15 (v := (nI 0)) (by decide) ?_
  exact q_iretL hX hT dL_temperature_16 h (by omega) (by omega)
set_option maxRecDepth 100000 in
set_option maxHeartbeats 4000000 in
theorem w_L_temperatureBits {l : Launch} {D : DT} {L : LT} {a1 : Int32} {I : IT} {K : Int32 → IT → LT → Prop} (hf : l.stackTraces = false)  (h : f_L_temperatureBits a1 I L K) : ConW l D m_L_temperatureBits [(0, 9, 12, 21)] 8 [.ref 0, .int a1, .ref 195] 1 6 I L (PL K) := by
  refine ConW.of (by decide +kernel) (by simp [Value.category]) (Nat.le_of_ble_eq_true rfl) (fun X hX hT hN hB => ?_)
  have hX : OK X D cL_temperatureBits "TeaHouseLaw" 4 := hX
  have hT : RTL X l D (some .int) (P2 (PL K)) 8 1 6 := hT
  have hR := hT.1
  change J2 X D 4 0 0 I L 0 [.ref 0, .int a1, .ref 195, .retAddr 0] []
  rw [f_L_temperatureBits] at h
  refine q_aload_n hX dL_temperatureBits_0 rfl ?_
  refine q_iconst hX dL_temperatureBits_1 (v := (nI 0)) (by decide) ?_
  refine q_aload_n hX dL_temperatureBits_2 rfl ?_
  refine q_iload_n hX dL_temperatureBits_3 rfl ?_
  refine q_W_ip hX hR (w_X8_temperatureBits hf  h) lk_L_69 (rc2_of (ci := 9) rfl rfl) dL_temperatureBits_4 rfl rfl (Nat.le_of_ble_eq_true rfl) (by omega) (by omega) (by omega) ?_ ?_
  rotate_left
  · intro E h
    refine q_cs (k := "java/lang/IndexOutOfBoundsException") (fun e0_ => ?_) (fun e0_ => ?_)
    · replace h := ite_t e0_ h
      subst e0_
      refine q_catchN hX hN hB 0 rfl rfl rfl (by decide +kernel) cl_L_21 ca_21 (by decide +kernel) dL_temperatureBits_12 (by decide) ?_
      refine q_iconst hX dL_temperatureBits_13 (v := (nI 1)) (by decide) ?_
      exact q_iretL hX hT dL_temperatureBits_14 h (by omega) (by omega)
    replace h := ite_f e0_ h
    exact False.elim h
  intro x1 h
  refine q_i2l hX dL_temperatureBits_7 rfl ?_
  replace h := wrL_e h
  refine q_last hX dL_temperatureBits_8 ?_
  generalize (up2 _ _ _ _, Prod.snd _) = L2 at h ⊢
  refine q_goto hX dL_temperatureBits_9 (tgt := 15) (by decide) ?_
  refine q_iconst hX dL_temperatureBits_15 (v := (nI 0)) (by decide) ?_
  exact q_iretL hX hT dL_temperatureBits_16 h (by omega) (by omega)
set_option maxRecDepth 100000 in
set_option maxHeartbeats 4000000 in
theorem w_L_burner {l : Launch} {D : DT} {L : LT} {a1 : Int32} {I : IT} {K : Int32 → IT → LT → Prop} (hf : l.stackTraces = false)  (h : f_L_burner a1 I L K) : ConW l D m_L_burner [(0, 9, 12, 21)] 8 [.ref 0, .int a1, .ref 195] 1 6 I L (PL K) := by
  refine ConW.of (by decide +kernel) (by simp [Value.category]) (Nat.le_of_ble_eq_true rfl) (fun X hX hT hN hB => ?_)
  have hX : OK X D cL_burner "TeaHouseLaw" 4 := hX
  have hT : RTL X l D (some .int) (P2 (PL K)) 8 1 6 := hT
  have hR := hT.1
  change J2 X D 4 0 0 I L 0 [.ref 0, .int a1, .ref 195, .retAddr 0] []
  rw [f_L_burner] at h
  refine q_aload_n hX dL_burner_0 rfl ?_
  refine q_iconst hX dL_burner_1 (v := (nI 0)) (by decide) ?_
  refine q_aload_n hX dL_burner_2 rfl ?_
  refine q_iload_n hX dL_burner_3 rfl ?_
  refine q_W_ip hX hR (w_X8_burner hf  h) lk_L_72 (rc2_of (ci := 9) rfl rfl) dL_burner_4 rfl rfl (Nat.le_of_ble_eq_true rfl) (by omega) (by omega) (by omega) ?_ ?_
  rotate_left
  · intro E h
    refine q_cs (k := "java/lang/IndexOutOfBoundsException") (fun e0_ => ?_) (fun e0_ => ?_)
    · replace h := ite_t e0_ h
      subst e0_
      refine q_catchN hX hN hB 0 rfl rfl rfl (by decide +kernel) cl_L_21 ca_21 (by decide +kernel) dL_burner_12 (by decide) ?_
      refine q_iconst hX dL_burner_13 (v := (nI 1)) (by decide) ?_
      exact q_iretL hX hT dL_burner_14 h (by omega) (by omega)
    replace h := ite_f e0_ h
    exact False.elim h
  intro x1 h
  refine q_i2l hX dL_burner_7 rfl ?_
  replace h := wrL_e h
  refine q_last hX dL_burner_8 ?_
  generalize (up2 _ _ _ _, Prod.snd _) = L2 at h ⊢
  refine q_goto hX dL_burner_9 (tgt := 15) (by decide) ?_
  refine q_iconst hX dL_burner_15 (v := (nI 0)) (by decide) ?_
  exact q_iretL hX hT dL_burner_16 h (by omega) (by omega)
set_option maxRecDepth 100000 in
set_option maxHeartbeats 4000000 in
theorem w_L_isBoiling {l : Launch} {D : DT} {L : LT} {a1 : Int32} {I : IT} {K : Int32 → IT → LT → Prop} (hf : l.stackTraces = false)  (h : f_L_isBoiling a1 I L K) : ConW l D m_L_isBoiling [(0, 16, 19, 21)] 8 [.ref 0, .int a1, .ref 195] 1 6 I L (PL K) := by
  refine ConW.of (by decide +kernel) (by simp [Value.category]) (Nat.le_of_ble_eq_true rfl) (fun X hX hT hN hB => ?_)
  have hX : OK X D cL_isBoiling "TeaHouseLaw" 4 := hX
  have hT : RTL X l D (some .int) (P2 (PL K)) 8 1 6 := hT
  have hR := hT.1
  change J2 X D 4 0 0 I L 0 [.ref 0, .int a1, .ref 195, .retAddr 0] []
  rw [f_L_isBoiling] at h
  refine q_aload_n hX dL_isBoiling_0 rfl ?_
  refine q_iconst hX dL_isBoiling_1 (v := (nI 0)) (by decide) ?_
  refine q_aload_n hX dL_isBoiling_2 rfl ?_
  refine q_iload_n hX dL_isBoiling_3 rfl ?_
  refine q_W_zp hX hR (w_X8_isBoiling hf  h) lk_L_75 (rc2_of (ci := 9) rfl rfl) dL_isBoiling_4 rfl rfl (Nat.le_of_ble_eq_true rfl) (by omega) (by omega) (by omega) ?_ ?_
  rotate_left
  · intro E h
    refine q_cs (k := "java/lang/IndexOutOfBoundsException") (fun e0_ => ?_) (fun e0_ => ?_)
    · replace h := ite_t e0_ h
      subst e0_
      refine q_catchN hX hN hB 0 rfl rfl rfl (by decide +kernel) cl_L_21 ca_21 (by decide +kernel) dL_isBoiling_19 (by decide) ?_
      refine q_iconst hX dL_isBoiling_20 (v := (nI 1)) (by decide) ?_
      exact q_iretL hX hT dL_isBoiling_21 h (by omega) (by omega)
    replace h := ite_f e0_ h
    exact False.elim h
  intro x1 hrx1 h
  refine q_if_eq hX dL_isBoiling_7 (tgt := 14) (by decide) (fun q2 => ?_) (fun q2 => ?_)
  · replace h := ite_t q2 h
    refine q_lconst hX dL_isBoiling_14 (v := lN 0) rfl ?_
    replace h := wrL_e h
    refine q_last hX dL_isBoiling_15 ?_
    generalize (up2 _ _ _ _, Prod.snd _) = L3 at h ⊢
    refine q_goto hX dL_isBoiling_16 (tgt := 22) (by decide) ?_
    refine q_iconst hX dL_isBoiling_22 (v := (nI 0)) (by decide) ?_
    exact q_iretL hX hT dL_isBoiling_23 h (by omega) (by omega)
  · replace h := ite_f q2 h
    refine q_lconst hX dL_isBoiling_10 (v := lN 1) rfl ?_
    refine q_goto hX dL_isBoiling_11 (tgt := 15) (by decide) ?_
    replace h := wrL_e h
    refine q_last hX dL_isBoiling_15 ?_
    generalize (up2 _ _ _ _, Prod.snd _) = L4 at h ⊢
    refine q_goto hX dL_isBoiling_16 (tgt := 22) (by decide) ?_
    refine q_iconst hX dL_isBoiling_22 (v := (nI 0)) (by decide) ?_
    exact q_iretL hX hT dL_isBoiling_23 h (by omega) (by omega)
set_option maxRecDepth 100000 in
set_option maxHeartbeats 4000000 in
theorem w_L_minutesUntilBoiling {l : Launch} {D : DT} {L : LT} {a1 : Int32} {I : IT} {K : Int32 → IT → LT → Prop} (hf : l.stackTraces = false)  (h : f_L_minutesUntilBoiling a1 I L K) : ConW l D m_L_minutesUntilBoiling [(0, 9, 12, 21), (0, 9, 15, 34)] 8 [.ref 0, .int a1, .ref 195] 2 12 I L (PL K) := by
  refine ConW.of (by decide +kernel) (by simp [Value.category]) (Nat.le_of_ble_eq_true rfl) (fun X hX hT hN hB => ?_)
  have hX : OK X D cL_minutesUntilBoiling "TeaHouseLaw" 4 := hX
  have hT : RTL X l D (some .int) (P2 (PL K)) 8 2 12 := hT
  have hR := hT.1
  change J2 X D 4 0 0 I L 0 [.ref 0, .int a1, .ref 195, .retAddr 0] []
  rw [f_L_minutesUntilBoiling] at h
  refine q_aload_n hX dL_minutesUntilBoiling_0 rfl ?_
  refine q_iconst hX dL_minutesUntilBoiling_1 (v := (nI 0)) (by decide) ?_
  refine q_aload_n hX dL_minutesUntilBoiling_2 rfl ?_
  refine q_iload_n hX dL_minutesUntilBoiling_3 rfl ?_
  refine q_W_ip hX hR (w_X8_minutesUntilBoiling hf  h) lk_L_79 (rc2_of (ci := 9) rfl rfl) dL_minutesUntilBoiling_4 rfl rfl (Nat.le_of_ble_eq_true rfl) (by omega) (by omega) (by omega) ?_ ?_
  rotate_left
  · intro E h
    refine q_cs (k := "java/lang/IndexOutOfBoundsException") (fun e0_ => ?_) (fun e0_ => ?_)
    · replace h := ite_t e0_ h
      subst e0_
      refine q_catchN hX hN hB 0 rfl rfl rfl (by decide +kernel) cl_L_21 ca_21 (by decide +kernel) dL_minutesUntilBoiling_12 (by decide) ?_
      refine q_iconst hX dL_minutesUntilBoiling_13 (v := (nI 1)) (by decide) ?_
      exact q_iretL hX hT dL_minutesUntilBoiling_14 h (by omega) (by omega)
    replace h := ite_f e0_ h
    refine q_cs (k := "java/util/NoSuchElementException") (fun e1_ => ?_) (fun e1_ => ?_)
    · replace h := ite_t e1_ h
      subst e1_
      refine q_catchN hX hN hB 1 rfl rfl rfl (by decide +kernel) cl_L_34 ca_34 (by decide +kernel) dL_minutesUntilBoiling_15 (by decide) ?_
      refine q_iconst hX dL_minutesUntilBoiling_16 (v := (nI 2)) (by decide) ?_
      exact q_iretL hX hT dL_minutesUntilBoiling_17 h (by omega) (by omega)
    replace h := ite_f e1_ h
    exact False.elim h
  intro x1 h
  refine q_i2l hX dL_minutesUntilBoiling_7 rfl ?_
  replace h := wrL_e h
  refine q_last hX dL_minutesUntilBoiling_8 ?_
  generalize (up2 _ _ _ _, Prod.snd _) = L2 at h ⊢
  refine q_goto hX dL_minutesUntilBoiling_9 (tgt := 18) (by decide) ?_
  refine q_iconst hX dL_minutesUntilBoiling_18 (v := (nI 0)) (by decide) ?_
  exact q_iretL hX hT dL_minutesUntilBoiling_19 h (by omega) (by omega)
set_option maxRecDepth 100000 in
set_option maxHeartbeats 4000000 in
theorem w_L_minutesUntilBoilingByMinutes {l : Launch} {D : DT} {L : LT} {a1 : Int32} {I : IT} {K : Int32 → IT → LT → Prop} (hf : l.stackTraces = false)  (h : f_L_minutesUntilBoilingByMinutes a1 I L K) : ConW l D m_L_minutesUntilBoilingByMinutes [(0, 9, 12, 21), (0, 9, 15, 34)] 8 [.ref 0, .int a1, .ref 195] 2 12 I L (PL K) := by
  refine ConW.of (by decide +kernel) (by simp [Value.category]) (Nat.le_of_ble_eq_true rfl) (fun X hX hT hN hB => ?_)
  have hX : OK X D cL_minutesUntilBoilingByMinutes "TeaHouseLaw" 4 := hX
  have hT : RTL X l D (some .int) (P2 (PL K)) 8 2 12 := hT
  have hR := hT.1
  change J2 X D 4 0 0 I L 0 [.ref 0, .int a1, .ref 195, .retAddr 0] []
  rw [f_L_minutesUntilBoilingByMinutes] at h
  refine q_aload_n hX dL_minutesUntilBoilingByMinutes_0 rfl ?_
  refine q_iconst hX dL_minutesUntilBoilingByMinutes_1 (v := (nI 0)) (by decide) ?_
  refine q_aload_n hX dL_minutesUntilBoilingByMinutes_2 rfl ?_
  refine q_iload_n hX dL_minutesUntilBoilingByMinutes_3 rfl ?_
  refine q_W_i hX hR (w_X8_minutesUntilBoilingByMinutes hf  h) lk_L_82 (rc2_of (ci := 9) rfl rfl) dL_minutesUntilBoilingByMinutes_4 rfl rfl (Nat.le_of_ble_eq_true rfl) (by omega) (by omega) (by omega) ?_ ?_
  rotate_left
  · intro E I9_ h
    refine q_cs (k := "java/lang/IndexOutOfBoundsException") (fun e0_ => ?_) (fun e0_ => ?_)
    · replace h := ite_t e0_ h
      subst e0_
      refine q_catchN hX hN hB 0 rfl rfl rfl (by decide +kernel) cl_L_21 ca_21 (by decide +kernel) dL_minutesUntilBoilingByMinutes_12 (by decide) ?_
      refine q_iconst hX dL_minutesUntilBoilingByMinutes_13 (v := (nI 1)) (by decide) ?_
      exact q_iretL hX hT dL_minutesUntilBoilingByMinutes_14 h (by omega) (by omega)
    replace h := ite_f e0_ h
    refine q_cs (k := "java/util/NoSuchElementException") (fun e1_ => ?_) (fun e1_ => ?_)
    · replace h := ite_t e1_ h
      subst e1_
      refine q_catchN hX hN hB 1 rfl rfl rfl (by decide +kernel) cl_L_34 ca_34 (by decide +kernel) dL_minutesUntilBoilingByMinutes_15 (by decide) ?_
      refine q_iconst hX dL_minutesUntilBoilingByMinutes_16 (v := (nI 2)) (by decide) ?_
      exact q_iretL hX hT dL_minutesUntilBoilingByMinutes_17 h (by omega) (by omega)
    replace h := ite_f e1_ h
    exact False.elim h
  intro x1 I2 h
  refine q_i2l hX dL_minutesUntilBoilingByMinutes_7 rfl ?_
  replace h := wrL_e h
  refine q_last hX dL_minutesUntilBoilingByMinutes_8 ?_
  generalize (up2 _ _ _ _, Prod.snd _) = L3 at h ⊢
  refine q_goto hX dL_minutesUntilBoilingByMinutes_9 (tgt := 18) (by decide) ?_
  refine q_iconst hX dL_minutesUntilBoilingByMinutes_18 (v := (nI 0)) (by decide) ?_
  exact q_iretL hX hT dL_minutesUntilBoilingByMinutes_19 h (by omega) (by omega)
set_option maxRecDepth 100000 in
set_option maxHeartbeats 4000000 in
theorem w_L_kettleByTemperature {l : Launch} {D : DT} {L : LT} {a1 : Int32} {I : IT} {K : Int32 → IT → LT → Prop} (hf : l.stackTraces = false)  (h : f_L_kettleByTemperature a1 I L K) : ConW l D m_L_kettleByTemperature [(0, 9, 12, 34)] 8 [.ref 0, .int a1, .ref 195] 1 6 I L (PL K) := by
  refine ConW.of (by decide +kernel) (by simp [Value.category]) (Nat.le_of_ble_eq_true rfl) (fun X hX hT hN hB => ?_)
  have hX : OK X D cL_kettleByTemperature "TeaHouseLaw" 4 := hX
  have hT : RTL X l D (some .int) (P2 (PL K)) 8 1 6 := hT
  have hR := hT.1
  change J2 X D 4 0 0 I L 0 [.ref 0, .int a1, .ref 195, .retAddr 0] []
  rw [f_L_kettleByTemperature] at h
  refine q_aload_n hX dL_kettleByTemperature_0 rfl ?_
  refine q_iconst hX dL_kettleByTemperature_1 (v := (nI 0)) (by decide) ?_
  refine q_aload_n hX dL_kettleByTemperature_2 rfl ?_
  refine q_iload_n hX dL_kettleByTemperature_3 rfl ?_
  refine q_W_ip hX hR (w_X8_kettleByTemperature hf  h) lk_L_85 (rc2_of (ci := 9) rfl rfl) dL_kettleByTemperature_4 rfl rfl (Nat.le_of_ble_eq_true rfl) (by omega) (by omega) (by omega) ?_ ?_
  rotate_left
  · intro E h
    refine q_cs (k := "java/util/NoSuchElementException") (fun e0_ => ?_) (fun e0_ => ?_)
    · replace h := ite_t e0_ h
      subst e0_
      refine q_catchN hX hN hB 0 rfl rfl rfl (by decide +kernel) cl_L_34 ca_34 (by decide +kernel) dL_kettleByTemperature_12 (by decide) ?_
      refine q_iconst hX dL_kettleByTemperature_13 (v := (nI 1)) (by decide) ?_
      exact q_iretL hX hT dL_kettleByTemperature_14 h (by omega) (by omega)
    replace h := ite_f e0_ h
    exact False.elim h
  intro x1 h
  refine q_i2l hX dL_kettleByTemperature_7 rfl ?_
  replace h := wrL_e h
  refine q_last hX dL_kettleByTemperature_8 ?_
  generalize (up2 _ _ _ _, Prod.snd _) = L2 at h ⊢
  refine q_goto hX dL_kettleByTemperature_9 (tgt := 15) (by decide) ?_
  refine q_iconst hX dL_kettleByTemperature_15 (v := (nI 0)) (by decide) ?_
  exact q_iretL hX hT dL_kettleByTemperature_16 h (by omega) (by omega)
set_option maxRecDepth 100000 in
set_option maxHeartbeats 4000000 in
theorem w_L_orderAt {l : Launch} {D : DT} {L : LT} {a1 : Int32} {I : IT} {K : Int32 → IT → LT → Prop} (hf : l.stackTraces = false)  (h : f_L_orderAt a1 I L K) : ConW l D m_L_orderAt [(0, 9, 12, 34)] 8 [.ref 0, .int a1, .ref 195] 1 6 I L (PL K) := by
  refine ConW.of (by decide +kernel) (by simp [Value.category]) (Nat.le_of_ble_eq_true rfl) (fun X hX hT hN hB => ?_)
  have hX : OK X D cL_orderAt "TeaHouseLaw" 4 := hX
  have hT : RTL X l D (some .int) (P2 (PL K)) 8 1 6 := hT
  have hR := hT.1
  change J2 X D 4 0 0 I L 0 [.ref 0, .int a1, .ref 195, .retAddr 0] []
  rw [f_L_orderAt] at h
  refine q_aload_n hX dL_orderAt_0 rfl ?_
  refine q_iconst hX dL_orderAt_1 (v := (nI 0)) (by decide) ?_
  refine q_aload_n hX dL_orderAt_2 rfl ?_
  refine q_iload_n hX dL_orderAt_3 rfl ?_
  refine q_W_ip hX hR (w_X8_orderAt hf  h) lk_L_88 (rc2_of (ci := 9) rfl rfl) dL_orderAt_4 rfl rfl (Nat.le_of_ble_eq_true rfl) (by omega) (by omega) (by omega) ?_ ?_
  rotate_left
  · intro E h
    refine q_cs (k := "java/util/NoSuchElementException") (fun e0_ => ?_) (fun e0_ => ?_)
    · replace h := ite_t e0_ h
      subst e0_
      refine q_catchN hX hN hB 0 rfl rfl rfl (by decide +kernel) cl_L_34 ca_34 (by decide +kernel) dL_orderAt_12 (by decide) ?_
      refine q_iconst hX dL_orderAt_13 (v := (nI 1)) (by decide) ?_
      exact q_iretL hX hT dL_orderAt_14 h (by omega) (by omega)
    replace h := ite_f e0_ h
    exact False.elim h
  intro x1 h
  refine q_i2l hX dL_orderAt_7 rfl ?_
  replace h := wrL_e h
  refine q_last hX dL_orderAt_8 ?_
  generalize (up2 _ _ _ _, Prod.snd _) = L2 at h ⊢
  refine q_goto hX dL_orderAt_9 (tgt := 15) (by decide) ?_
  refine q_iconst hX dL_orderAt_15 (v := (nI 0)) (by decide) ?_
  exact q_iretL hX hT dL_orderAt_16 h (by omega) (by omega)
set_option maxRecDepth 100000 in
set_option maxHeartbeats 4000000 in
theorem w_L_positionOf {l : Launch} {D : DT} {L : LT} {a1 : Int32} {I : IT} {K : Int32 → IT → LT → Prop} (hf : l.stackTraces = false)  (h : f_L_positionOf a1 I L K) : ConW l D m_L_positionOf [(0, 9, 12, 34)] 8 [.ref 0, .int a1, .ref 195] 1 6 I L (PL K) := by
  refine ConW.of (by decide +kernel) (by simp [Value.category]) (Nat.le_of_ble_eq_true rfl) (fun X hX hT hN hB => ?_)
  have hX : OK X D cL_positionOf "TeaHouseLaw" 4 := hX
  have hT : RTL X l D (some .int) (P2 (PL K)) 8 1 6 := hT
  have hR := hT.1
  change J2 X D 4 0 0 I L 0 [.ref 0, .int a1, .ref 195, .retAddr 0] []
  rw [f_L_positionOf] at h
  refine q_aload_n hX dL_positionOf_0 rfl ?_
  refine q_iconst hX dL_positionOf_1 (v := (nI 0)) (by decide) ?_
  refine q_aload_n hX dL_positionOf_2 rfl ?_
  refine q_iload_n hX dL_positionOf_3 rfl ?_
  refine q_W_ip hX hR (w_X8_positionOf hf  h) lk_L_91 (rc2_of (ci := 9) rfl rfl) dL_positionOf_4 rfl rfl (Nat.le_of_ble_eq_true rfl) (by omega) (by omega) (by omega) ?_ ?_
  rotate_left
  · intro E h
    refine q_cs (k := "java/util/NoSuchElementException") (fun e0_ => ?_) (fun e0_ => ?_)
    · replace h := ite_t e0_ h
      subst e0_
      refine q_catchN hX hN hB 0 rfl rfl rfl (by decide +kernel) cl_L_34 ca_34 (by decide +kernel) dL_positionOf_12 (by decide) ?_
      refine q_iconst hX dL_positionOf_13 (v := (nI 1)) (by decide) ?_
      exact q_iretL hX hT dL_positionOf_14 h (by omega) (by omega)
    replace h := ite_f e0_ h
    exact False.elim h
  intro x1 h
  refine q_i2l hX dL_positionOf_7 rfl ?_
  replace h := wrL_e h
  refine q_last hX dL_positionOf_8 ?_
  generalize (up2 _ _ _ _, Prod.snd _) = L2 at h ⊢
  refine q_goto hX dL_positionOf_9 (tgt := 15) (by decide) ?_
  refine q_iconst hX dL_positionOf_15 (v := (nI 0)) (by decide) ?_
  exact q_iretL hX hT dL_positionOf_16 h (by omega) (by omega)
set_option maxRecDepth 100000 in
set_option maxHeartbeats 4000000 in
theorem w_L_cupsOf {l : Launch} {D : DT} {L : LT} {a1 : Int32} {I : IT} {K : Int32 → IT → LT → Prop} (hf : l.stackTraces = false)  (h : f_L_cupsOf a1 I L K) : ConW l D m_L_cupsOf [(0, 9, 12, 34)] 8 [.ref 0, .int a1, .ref 195] 1 6 I L (PL K) := by
  refine ConW.of (by decide +kernel) (by simp [Value.category]) (Nat.le_of_ble_eq_true rfl) (fun X hX hT hN hB => ?_)
  have hX : OK X D cL_cupsOf "TeaHouseLaw" 4 := hX
  have hT : RTL X l D (some .int) (P2 (PL K)) 8 1 6 := hT
  have hR := hT.1
  change J2 X D 4 0 0 I L 0 [.ref 0, .int a1, .ref 195, .retAddr 0] []
  rw [f_L_cupsOf] at h
  refine q_aload_n hX dL_cupsOf_0 rfl ?_
  refine q_iconst hX dL_cupsOf_1 (v := (nI 0)) (by decide) ?_
  refine q_aload_n hX dL_cupsOf_2 rfl ?_
  refine q_iload_n hX dL_cupsOf_3 rfl ?_
  refine q_W_ip hX hR (w_X8_cupsOf hf  h) lk_L_94 (rc2_of (ci := 9) rfl rfl) dL_cupsOf_4 rfl rfl (Nat.le_of_ble_eq_true rfl) (by omega) (by omega) (by omega) ?_ ?_
  rotate_left
  · intro E h
    refine q_cs (k := "java/util/NoSuchElementException") (fun e0_ => ?_) (fun e0_ => ?_)
    · replace h := ite_t e0_ h
      subst e0_
      refine q_catchN hX hN hB 0 rfl rfl rfl (by decide +kernel) cl_L_34 ca_34 (by decide +kernel) dL_cupsOf_12 (by decide) ?_
      refine q_iconst hX dL_cupsOf_13 (v := (nI 1)) (by decide) ?_
      exact q_iretL hX hT dL_cupsOf_14 h (by omega) (by omega)
    replace h := ite_f e0_ h
    exact False.elim h
  intro x1 h
  refine q_i2l hX dL_cupsOf_7 rfl ?_
  replace h := wrL_e h
  refine q_last hX dL_cupsOf_8 ?_
  generalize (up2 _ _ _ _, Prod.snd _) = L2 at h ⊢
  refine q_goto hX dL_cupsOf_9 (tgt := 15) (by decide) ?_
  refine q_iconst hX dL_cupsOf_15 (v := (nI 0)) (by decide) ?_
  exact q_iretL hX hT dL_cupsOf_16 h (by omega) (by omega)
set_option maxRecDepth 100000 in
set_option maxHeartbeats 4000000 in
theorem w_L_priceOf {l : Launch} {D : DT} {L : LT} {a1 : Int32} {I : IT} {K : Int32 → IT → LT → Prop} (hf : l.stackTraces = false)  (h : f_L_priceOf a1 I L K) : ConW l D m_L_priceOf [(0, 9, 12, 34)] 8 [.ref 0, .int a1, .ref 196] 1 6 I L (PL K) := by
  refine ConW.of (by decide +kernel) (by simp [Value.category]) (Nat.le_of_ble_eq_true rfl) (fun X hX hT hN hB => ?_)
  have hX : OK X D cL_priceOf "TeaHouseLaw" 4 := hX
  have hT : RTL X l D (some .int) (P2 (PL K)) 8 1 6 := hT
  have hR := hT.1
  change J2 X D 4 0 0 I L 0 [.ref 0, .int a1, .ref 196, .retAddr 0] []
  rw [f_L_priceOf] at h
  refine q_aload_n hX dL_priceOf_0 rfl ?_
  refine q_iconst hX dL_priceOf_1 (v := (nI 0)) (by decide) ?_
  refine q_aload_n hX dL_priceOf_2 rfl ?_
  refine q_iload_n hX dL_priceOf_3 rfl ?_
  refine q_W_fp hX hR (w_X8_priceOf hf  h) lk_L_97 (rc2_of (ci := 9) rfl rfl) dL_priceOf_4 rfl rfl (Nat.le_of_ble_eq_true rfl) (by omega) (by omega) (by omega) ?_ ?_
  rotate_left
  · intro E h
    refine q_cs (k := "java/util/NoSuchElementException") (fun e0_ => ?_) (fun e0_ => ?_)
    · replace h := ite_t e0_ h
      subst e0_
      refine q_catchN hX hN hB 0 rfl rfl rfl (by decide +kernel) cl_L_34 ca_34 (by decide +kernel) dL_priceOf_12 (by decide) ?_
      refine q_iconst hX dL_priceOf_13 (v := (nI 1)) (by decide) ?_
      exact q_iretL hX hT dL_priceOf_14 h (by omega) (by omega)
    replace h := ite_f e0_ h
    exact False.elim h
  intro x1 h
  obtain ⟨z2, h⟩ := h
  refine q_f2d hX dL_priceOf_7 z2 ?_
  replace h := wrD_e h
  refine q_dast hX dL_priceOf_8 ?_
  generalize (Prod.fst _, up2 _ _ _ _) = L3 at h ⊢
  refine q_goto hX dL_priceOf_9 (tgt := 15) (by decide) ?_
  refine q_iconst hX dL_priceOf_15 (v := (nI 0)) (by decide) ?_
  exact q_iretL hX hT dL_priceOf_16 h (by omega) (by omega)
set_option maxRecDepth 100000 in
set_option maxHeartbeats 4000000 in
theorem w_L_kettleFor {l : Launch} {D : DT} {L : LT} {a1 : Int32} {I : IT} {K : Int32 → IT → LT → Prop} (hf : l.stackTraces = false)  (h : f_L_kettleFor a1 I L K) : ConW l D m_L_kettleFor [(0, 9, 12, 34)] 8 [.ref 0, .int a1, .ref 195] 2 12 I L (PL K) := by
  refine ConW.of (by decide +kernel) (by simp [Value.category]) (Nat.le_of_ble_eq_true rfl) (fun X hX hT hN hB => ?_)
  have hX : OK X D cL_kettleFor "TeaHouseLaw" 4 := hX
  have hT : RTL X l D (some .int) (P2 (PL K)) 8 2 12 := hT
  have hR := hT.1
  change J2 X D 4 0 0 I L 0 [.ref 0, .int a1, .ref 195, .retAddr 0] []
  rw [f_L_kettleFor] at h
  refine q_aload_n hX dL_kettleFor_0 rfl ?_
  refine q_iconst hX dL_kettleFor_1 (v := (nI 0)) (by decide) ?_
  refine q_aload_n hX dL_kettleFor_2 rfl ?_
  refine q_iload_n hX dL_kettleFor_3 rfl ?_
  refine q_W_ip hX hR (w_X8_kettleFor hf  h) lk_L_100 (rc2_of (ci := 9) rfl rfl) dL_kettleFor_4 rfl rfl (Nat.le_of_ble_eq_true rfl) (by omega) (by omega) (by omega) ?_ ?_
  rotate_left
  · intro E h
    refine q_cs (k := "java/util/NoSuchElementException") (fun e0_ => ?_) (fun e0_ => ?_)
    · replace h := ite_t e0_ h
      subst e0_
      refine q_catchN hX hN hB 0 rfl rfl rfl (by decide +kernel) cl_L_34 ca_34 (by decide +kernel) dL_kettleFor_12 (by decide) ?_
      refine q_iconst hX dL_kettleFor_13 (v := (nI 1)) (by decide) ?_
      exact q_iretL hX hT dL_kettleFor_14 h (by omega) (by omega)
    replace h := ite_f e0_ h
    exact False.elim h
  intro x1 h
  refine q_i2l hX dL_kettleFor_7 rfl ?_
  replace h := wrL_e h
  refine q_last hX dL_kettleFor_8 ?_
  generalize (up2 _ _ _ _, Prod.snd _) = L2 at h ⊢
  refine q_goto hX dL_kettleFor_9 (tgt := 15) (by decide) ?_
  refine q_iconst hX dL_kettleFor_15 (v := (nI 0)) (by decide) ?_
  exact q_iretL hX hT dL_kettleFor_16 h (by omega) (by omega)
set_option maxRecDepth 100000 in
set_option maxHeartbeats 4000000 in
theorem w_L_minutesUntilSuitable {l : Launch} {D : DT} {L : LT} {a1 : Int32} {I : IT} {K : Int32 → IT → LT → Prop} (hf : l.stackTraces = false)  (h : f_L_minutesUntilSuitable a1 I L K) : ConW l D m_L_minutesUntilSuitable [(0, 9, 12, 34)] 8 [.ref 0, .int a1, .ref 195] 2 12 I L (PL K) := by
  refine ConW.of (by decide +kernel) (by simp [Value.category]) (Nat.le_of_ble_eq_true rfl) (fun X hX hT hN hB => ?_)
  have hX : OK X D cL_minutesUntilSuitable "TeaHouseLaw" 4 := hX
  have hT : RTL X l D (some .int) (P2 (PL K)) 8 2 12 := hT
  have hR := hT.1
  change J2 X D 4 0 0 I L 0 [.ref 0, .int a1, .ref 195, .retAddr 0] []
  rw [f_L_minutesUntilSuitable] at h
  refine q_aload_n hX dL_minutesUntilSuitable_0 rfl ?_
  refine q_iconst hX dL_minutesUntilSuitable_1 (v := (nI 0)) (by decide) ?_
  refine q_aload_n hX dL_minutesUntilSuitable_2 rfl ?_
  refine q_iload_n hX dL_minutesUntilSuitable_3 rfl ?_
  refine q_W_i hX hR (w_X8_minutesUntilSuitable hf  h) lk_L_103 (rc2_of (ci := 9) rfl rfl) dL_minutesUntilSuitable_4 rfl rfl (Nat.le_of_ble_eq_true rfl) (by omega) (by omega) (by omega) ?_ ?_
  rotate_left
  · intro E I9_ h
    refine q_cs (k := "java/util/NoSuchElementException") (fun e0_ => ?_) (fun e0_ => ?_)
    · replace h := ite_t e0_ h
      subst e0_
      refine q_catchN hX hN hB 0 rfl rfl rfl (by decide +kernel) cl_L_34 ca_34 (by decide +kernel) dL_minutesUntilSuitable_12 (by decide) ?_
      refine q_iconst hX dL_minutesUntilSuitable_13 (v := (nI 1)) (by decide) ?_
      exact q_iretL hX hT dL_minutesUntilSuitable_14 h (by omega) (by omega)
    replace h := ite_f e0_ h
    exact False.elim h
  intro x1 I2 h
  refine q_i2l hX dL_minutesUntilSuitable_7 rfl ?_
  replace h := wrL_e h
  refine q_last hX dL_minutesUntilSuitable_8 ?_
  generalize (up2 _ _ _ _, Prod.snd _) = L3 at h ⊢
  refine q_goto hX dL_minutesUntilSuitable_9 (tgt := 15) (by decide) ?_
  refine q_iconst hX dL_minutesUntilSuitable_15 (v := (nI 0)) (by decide) ?_
  exact q_iretL hX hT dL_minutesUntilSuitable_16 h (by omega) (by omega)
set_option maxRecDepth 100000 in
set_option maxHeartbeats 4000000 in
theorem w_L_nightIncome {l : Launch} {D : DT} {L : LT} {a1 : Int32} {I : IT} {K : Int32 → IT → LT → Prop} (hf : l.stackTraces = false)  (h : f_L_nightIncome a1 I L K) : ConW l D m_L_nightIncome [(0, 9, 12, 21)] 7 [.ref 0, .int a1, .ref 196] 1 6 I L (PL K) := by
  refine ConW.of (by decide +kernel) (by simp [Value.category]) (Nat.le_of_ble_eq_true rfl) (fun X hX hT hN hB => ?_)
  have hX : OK X D cL_nightIncome "TeaHouseLaw" 4 := hX
  have hT : RTL X l D (some .int) (P2 (PL K)) 7 1 6 := hT
  have hR := hT.1
  change J2 X D 4 0 0 I L 0 [.ref 0, .int a1, .ref 196, .retAddr 0] []
  rw [f_L_nightIncome] at h
  refine q_aload_n hX dL_nightIncome_0 rfl ?_
  refine q_iconst hX dL_nightIncome_1 (v := (nI 0)) (by decide) ?_
  refine q_aload_n hX dL_nightIncome_2 rfl ?_
  refine q_iload_n hX dL_nightIncome_3 rfl ?_
  refine q_W_fp hX hR (w_X8_nightIncome hf  h) lk_L_106 (rc2_of (ci := 9) rfl rfl) dL_nightIncome_4 rfl rfl (Nat.le_of_ble_eq_true rfl) (by omega) (by omega) (by omega) ?_ ?_
  rotate_left
  · intro E h
    refine q_cs (k := "java/lang/IndexOutOfBoundsException") (fun e0_ => ?_) (fun e0_ => ?_)
    · replace h := ite_t e0_ h
      subst e0_
      refine q_catchN hX hN hB 0 rfl rfl rfl (by decide +kernel) cl_L_21 ca_21 (by decide +kernel) dL_nightIncome_12 (by decide) ?_
      refine q_iconst hX dL_nightIncome_13 (v := (nI 1)) (by decide) ?_
      exact q_iretL hX hT dL_nightIncome_14 h (by omega) (by omega)
    replace h := ite_f e0_ h
    exact False.elim h
  intro x1 h
  obtain ⟨z2, h⟩ := h
  refine q_f2d hX dL_nightIncome_7 z2 ?_
  replace h := wrD_e h
  refine q_dast hX dL_nightIncome_8 ?_
  generalize (Prod.fst _, up2 _ _ _ _) = L3 at h ⊢
  refine q_goto hX dL_nightIncome_9 (tgt := 15) (by decide) ?_
  refine q_iconst hX dL_nightIncome_15 (v := (nI 0)) (by decide) ?_
  exact q_iretL hX hT dL_nightIncome_16 h (by omega) (by omega)
set_option maxRecDepth 100000 in
set_option maxHeartbeats 4000000 in
theorem w_L_nightByIncome {l : Launch} {D : DT} {L : LT} {a1 : Int32} {I : IT} {K : Int32 → IT → LT → Prop} (hf : l.stackTraces = false)  (h : f_L_nightByIncome a1 I L K) : ConW l D m_L_nightByIncome [(0, 9, 12, 34)] 8 [.ref 0, .int a1, .ref 195] 1 6 I L (PL K) := by
  refine ConW.of (by decide +kernel) (by simp [Value.category]) (Nat.le_of_ble_eq_true rfl) (fun X hX hT hN hB => ?_)
  have hX : OK X D cL_nightByIncome "TeaHouseLaw" 4 := hX
  have hT : RTL X l D (some .int) (P2 (PL K)) 8 1 6 := hT
  have hR := hT.1
  change J2 X D 4 0 0 I L 0 [.ref 0, .int a1, .ref 195, .retAddr 0] []
  rw [f_L_nightByIncome] at h
  refine q_aload_n hX dL_nightByIncome_0 rfl ?_
  refine q_iconst hX dL_nightByIncome_1 (v := (nI 0)) (by decide) ?_
  refine q_aload_n hX dL_nightByIncome_2 rfl ?_
  refine q_iload_n hX dL_nightByIncome_3 rfl ?_
  refine q_W_ip hX hR (w_X8_nightByIncome hf  h) lk_L_109 (rc2_of (ci := 9) rfl rfl) dL_nightByIncome_4 rfl rfl (Nat.le_of_ble_eq_true rfl) (by omega) (by omega) (by omega) ?_ ?_
  rotate_left
  · intro E h
    refine q_cs (k := "java/util/NoSuchElementException") (fun e0_ => ?_) (fun e0_ => ?_)
    · replace h := ite_t e0_ h
      subst e0_
      refine q_catchN hX hN hB 0 rfl rfl rfl (by decide +kernel) cl_L_34 ca_34 (by decide +kernel) dL_nightByIncome_12 (by decide) ?_
      refine q_iconst hX dL_nightByIncome_13 (v := (nI 1)) (by decide) ?_
      exact q_iretL hX hT dL_nightByIncome_14 h (by omega) (by omega)
    replace h := ite_f e0_ h
    exact False.elim h
  intro x1 h
  refine q_i2l hX dL_nightByIncome_7 rfl ?_
  replace h := wrL_e h
  refine q_last hX dL_nightByIncome_8 ?_
  generalize (up2 _ _ _ _, Prod.snd _) = L2 at h ⊢
  refine q_goto hX dL_nightByIncome_9 (tgt := 15) (by decide) ?_
  refine q_iconst hX dL_nightByIncome_15 (v := (nI 0)) (by decide) ?_
  exact q_iretL hX hT dL_nightByIncome_16 h (by omega) (by omega)
set_option maxRecDepth 100000 in
set_option maxHeartbeats 4000000 in
theorem w_L_greatestIncome {l : Launch} {D : DT} {L : LT} {a1 : Int32} {I : IT} {K : Int32 → IT → LT → Prop} (hf : l.stackTraces = false)  (h : f_L_greatestIncome a1 I L K) : ConW l D m_L_greatestIncome [(0, 9, 12, 13), (0, 9, 15, 34)] 8 [.ref 0, .int a1, .ref 196] 1 6 I L (PL K) := by
  refine ConW.of (by decide +kernel) (by simp [Value.category]) (Nat.le_of_ble_eq_true rfl) (fun X hX hT hN hB => ?_)
  have hX : OK X D cL_greatestIncome "TeaHouseLaw" 4 := hX
  have hT : RTL X l D (some .int) (P2 (PL K)) 8 1 6 := hT
  have hR := hT.1
  change J2 X D 4 0 0 I L 0 [.ref 0, .int a1, .ref 196, .retAddr 0] []
  rw [f_L_greatestIncome] at h
  refine q_aload_n hX dL_greatestIncome_0 rfl ?_
  refine q_iconst hX dL_greatestIncome_1 (v := (nI 0)) (by decide) ?_
  refine q_aload_n hX dL_greatestIncome_2 rfl ?_
  refine q_iload_n hX dL_greatestIncome_3 rfl ?_
  refine q_W_fp hX hR (w_X8_greatestIncome hf  h) lk_L_112 (rc2_of (ci := 9) rfl rfl) dL_greatestIncome_4 rfl rfl (Nat.le_of_ble_eq_true rfl) (by omega) (by omega) (by omega) ?_ ?_
  rotate_left
  · intro E h
    refine q_cs (k := "java/lang/IllegalArgumentException") (fun e0_ => ?_) (fun e0_ => ?_)
    · replace h := ite_t e0_ h
      subst e0_
      refine q_catchN hX hN hB 0 rfl rfl rfl (by decide +kernel) cl_L_13 ca_13 (by decide +kernel) dL_greatestIncome_12 (by decide) ?_
      refine q_iconst hX dL_greatestIncome_13 (v := (nI 1)) (by decide) ?_
      exact q_iretL hX hT dL_greatestIncome_14 h (by omega) (by omega)
    replace h := ite_f e0_ h
    refine q_cs (k := "java/util/NoSuchElementException") (fun e1_ => ?_) (fun e1_ => ?_)
    · replace h := ite_t e1_ h
      subst e1_
      refine q_catchN hX hN hB 1 rfl rfl rfl (by decide +kernel) cl_L_34 ca_34 (by decide +kernel) dL_greatestIncome_15 (by decide) ?_
      refine q_iconst hX dL_greatestIncome_16 (v := (nI 2)) (by decide) ?_
      exact q_iretL hX hT dL_greatestIncome_17 h (by omega) (by omega)
    replace h := ite_f e1_ h
    exact False.elim h
  intro x1 h
  obtain ⟨z2, h⟩ := h
  refine q_f2d hX dL_greatestIncome_7 z2 ?_
  replace h := wrD_e h
  refine q_dast hX dL_greatestIncome_8 ?_
  generalize (Prod.fst _, up2 _ _ _ _) = L3 at h ⊢
  refine q_goto hX dL_greatestIncome_9 (tgt := 18) (by decide) ?_
  refine q_iconst hX dL_greatestIncome_18 (v := (nI 0)) (by decide) ?_
  exact q_iretL hX hT dL_greatestIncome_19 h (by omega) (by omega)
set_option maxRecDepth 100000 in
set_option maxHeartbeats 4000000 in
theorem w_L_greatestIncomeBySums {l : Launch} {D : DT} {L : LT} {a1 : Int32} {I : IT} {K : Int32 → IT → LT → Prop} (hf : l.stackTraces = false)  (h : f_L_greatestIncomeBySums a1 I L K) : ConW l D m_L_greatestIncomeBySums [(0, 9, 12, 13), (0, 9, 15, 34)] 8 [.ref 0, .int a1, .ref 196] 1 6 I L (PL K) := by
  refine ConW.of (by decide +kernel) (by simp [Value.category]) (Nat.le_of_ble_eq_true rfl) (fun X hX hT hN hB => ?_)
  have hX : OK X D cL_greatestIncomeBySums "TeaHouseLaw" 4 := hX
  have hT : RTL X l D (some .int) (P2 (PL K)) 8 1 6 := hT
  have hR := hT.1
  change J2 X D 4 0 0 I L 0 [.ref 0, .int a1, .ref 196, .retAddr 0] []
  rw [f_L_greatestIncomeBySums] at h
  refine q_aload_n hX dL_greatestIncomeBySums_0 rfl ?_
  refine q_iconst hX dL_greatestIncomeBySums_1 (v := (nI 0)) (by decide) ?_
  refine q_aload_n hX dL_greatestIncomeBySums_2 rfl ?_
  refine q_iload_n hX dL_greatestIncomeBySums_3 rfl ?_
  refine q_W_fp hX hR (w_X8_greatestIncomeBySums hf  h) lk_L_115 (rc2_of (ci := 9) rfl rfl) dL_greatestIncomeBySums_4 rfl rfl (Nat.le_of_ble_eq_true rfl) (by omega) (by omega) (by omega) ?_ ?_
  rotate_left
  · intro E h
    refine q_cs (k := "java/lang/IllegalArgumentException") (fun e0_ => ?_) (fun e0_ => ?_)
    · replace h := ite_t e0_ h
      subst e0_
      refine q_catchN hX hN hB 0 rfl rfl rfl (by decide +kernel) cl_L_13 ca_13 (by decide +kernel) dL_greatestIncomeBySums_12 (by decide) ?_
      refine q_iconst hX dL_greatestIncomeBySums_13 (v := (nI 1)) (by decide) ?_
      exact q_iretL hX hT dL_greatestIncomeBySums_14 h (by omega) (by omega)
    replace h := ite_f e0_ h
    refine q_cs (k := "java/util/NoSuchElementException") (fun e1_ => ?_) (fun e1_ => ?_)
    · replace h := ite_t e1_ h
      subst e1_
      refine q_catchN hX hN hB 1 rfl rfl rfl (by decide +kernel) cl_L_34 ca_34 (by decide +kernel) dL_greatestIncomeBySums_15 (by decide) ?_
      refine q_iconst hX dL_greatestIncomeBySums_16 (v := (nI 2)) (by decide) ?_
      exact q_iretL hX hT dL_greatestIncomeBySums_17 h (by omega) (by omega)
    replace h := ite_f e1_ h
    exact False.elim h
  intro x1 h
  obtain ⟨z2, h⟩ := h
  refine q_f2d hX dL_greatestIncomeBySums_7 z2 ?_
  replace h := wrD_e h
  refine q_dast hX dL_greatestIncomeBySums_8 ?_
  generalize (Prod.fst _, up2 _ _ _ _) = L3 at h ⊢
  refine q_goto hX dL_greatestIncomeBySums_9 (tgt := 18) (by decide) ?_
  refine q_iconst hX dL_greatestIncomeBySums_18 (v := (nI 0)) (by decide) ?_
  exact q_iretL hX hT dL_greatestIncomeBySums_19 h (by omega) (by omega)
set_option maxRecDepth 100000 in
set_option maxHeartbeats 4000000 in
theorem w_L_meanTemperature {l : Launch} {D : DT} {L : LT}  {I : IT} {K : Int32 → IT → LT → Prop} (hf : l.stackTraces = false)  (h : f_L_meanTemperature  I L K) : ConW l D m_L_meanTemperature [(0, 7, 10, 122)] 7 [.ref 0, .ref 196] 1 6 I L (PL K) := by
  refine ConW.of (by decide +kernel) (by simp [Value.category]) (Nat.le_of_ble_eq_true rfl) (fun X hX hT hN hB => ?_)
  have hX : OK X D cL_meanTemperature "TeaHouseLaw" 3 := hX
  have hT : RTL X l D (some .int) (P2 (PL K)) 7 1 6 := hT
  have hR := hT.1
  change J2 X D 3 0 0 I L 0 [.ref 0, .ref 196, .retAddr 0] []
  rw [f_L_meanTemperature] at h
  refine q_aload_n hX dL_meanTemperature_0 rfl ?_
  refine q_iconst hX dL_meanTemperature_1 (v := (nI 0)) (by decide) ?_
  refine q_aload_n hX dL_meanTemperature_2 rfl ?_
  refine q_W_dp hX hR (w_X8_meanTemperature hf  h) lk_L_118 (rc2_of (ci := 9) rfl rfl) dL_meanTemperature_3 rfl rfl (Nat.le_of_ble_eq_true rfl) (by omega) (by omega) (by omega) ?_ ?_
  rotate_left
  · intro E h
    refine q_cs (k := "java/lang/ArithmeticException") (fun e0_ => ?_) (fun e0_ => ?_)
    · replace h := ite_t e0_ h
      subst e0_
      refine q_catchN hX hN hB 0 rfl rfl rfl (by decide +kernel) cl_L_122 ca_122 (by decide +kernel) dL_meanTemperature_10 (by decide) ?_
      refine q_iconst hX dL_meanTemperature_11 (v := (nI 1)) (by decide) ?_
      exact q_iretL hX hT dL_meanTemperature_12 h (by omega) (by omega)
    replace h := ite_f e0_ h
    exact False.elim h
  intro x1 h
  replace h := wrD_e h
  refine q_dast hX dL_meanTemperature_6 ?_
  generalize (Prod.fst _, up2 _ _ _ _) = L2 at h ⊢
  refine q_goto hX dL_meanTemperature_7 (tgt := 13) (by decide) ?_
  refine q_iconst hX dL_meanTemperature_13 (v := (nI 0)) (by decide) ?_
  exact q_iretL hX hT dL_meanTemperature_14 h (by omega) (by omega)
set_option maxRecDepth 100000 in
set_option maxHeartbeats 4000000 in
theorem w_L_lostShare {l : Launch} {D : DT} {L : LT}  {I : IT} {K : Int32 → IT → LT → Prop} (hf : l.stackTraces = false)  (h : f_L_lostShare  I L K) : ConW l D m_L_lostShare [(0, 8, 11, 122)] 7 [.ref 0, .ref 196] 1 6 I L (PL K) := by
  refine ConW.of (by decide +kernel) (by simp [Value.category]) (Nat.le_of_ble_eq_true rfl) (fun X hX hT hN hB => ?_)
  have hX : OK X D cL_lostShare "TeaHouseLaw" 3 := hX
  have hT : RTL X l D (some .int) (P2 (PL K)) 7 1 6 := hT
  have hR := hT.1
  change J2 X D 3 0 0 I L 0 [.ref 0, .ref 196, .retAddr 0] []
  rw [f_L_lostShare] at h
  refine q_aload_n hX dL_lostShare_0 rfl ?_
  refine q_iconst hX dL_lostShare_1 (v := (nI 0)) (by decide) ?_
  refine q_aload_n hX dL_lostShare_2 rfl ?_
  refine q_W_fp hX hR (w_X8_lostShare hf  h) lk_L_124 (rc2_of (ci := 9) rfl rfl) dL_lostShare_3 rfl rfl (Nat.le_of_ble_eq_true rfl) (by omega) (by omega) (by omega) ?_ ?_
  rotate_left
  · intro E h
    refine q_cs (k := "java/lang/ArithmeticException") (fun e0_ => ?_) (fun e0_ => ?_)
    · replace h := ite_t e0_ h
      subst e0_
      refine q_catchN hX hN hB 0 rfl rfl rfl (by decide +kernel) cl_L_122 ca_122 (by decide +kernel) dL_lostShare_11 (by decide) ?_
      refine q_iconst hX dL_lostShare_12 (v := (nI 1)) (by decide) ?_
      exact q_iretL hX hT dL_lostShare_13 h (by omega) (by omega)
    replace h := ite_f e0_ h
    exact False.elim h
  intro x1 h
  obtain ⟨z2, h⟩ := h
  refine q_f2d hX dL_lostShare_6 z2 ?_
  replace h := wrD_e h
  refine q_dast hX dL_lostShare_7 ?_
  generalize (Prod.fst _, up2 _ _ _ _) = L3 at h ⊢
  refine q_goto hX dL_lostShare_8 (tgt := 14) (by decide) ?_
  refine q_iconst hX dL_lostShare_14 (v := (nI 0)) (by decide) ?_
  exact q_iretL hX hT dL_lostShare_15 h (by omega) (by omega)
set_option maxRecDepth 100000 in
set_option maxHeartbeats 4000000 in
theorem w_L_formatKettle {l : Launch} {D : DT} {L : LT} {a1 : Int32} {I : IT} {K : Int32 → IT → LT → Prop} (hf : l.stackTraces = false)  (h : f_L_formatKettle a1 I L K) : ConW l D m_L_formatKettle [(0, 9, 12, 21)] 11 [.ref 0, .int a1, .ref 195] 13 3846 I L (PL K) := by
  refine ConW.of (by decide +kernel) (by simp [Value.category]) (Nat.le_of_ble_eq_true rfl) (fun X hX hT hN hB => ?_)
  have hX : OK X D cL_formatKettle "TeaHouseLaw" 4 := hX
  have hT : RTL X l D (some .int) (P2 (PL K)) 11 13 3846 := hT
  have hR := hT.1
  change J2 X D 4 0 0 I L 0 [.ref 0, .int a1, .ref 195, .retAddr 0] []
  rw [f_L_formatKettle] at h
  refine q_aload_n hX dL_formatKettle_0 rfl ?_
  refine q_iconst hX dL_formatKettle_1 (v := (nI 0)) (by decide) ?_
  refine q_aload_n hX dL_formatKettle_2 rfl ?_
  refine q_iload_n hX dL_formatKettle_3 rfl ?_
  refine q_W_i hX hR (w_X8_formatKettle hf  h) lk_L_127 (rc2_of (ci := 9) rfl rfl) dL_formatKettle_4 rfl rfl (Nat.le_of_ble_eq_true rfl) (by omega) (by omega) (by omega) ?_ ?_
  rotate_left
  · intro E I9_ h
    refine q_cs (k := "java/lang/IndexOutOfBoundsException") (fun e0_ => ?_) (fun e0_ => ?_)
    · replace h := ite_t e0_ h
      subst e0_
      refine q_catchN hX hN hB 0 rfl rfl rfl (by decide +kernel) cl_L_21 ca_21 (by decide +kernel) dL_formatKettle_12 (by decide) ?_
      refine q_iconst hX dL_formatKettle_13 (v := (nI 1)) (by decide) ?_
      exact q_iretL hX hT dL_formatKettle_14 h (by omega) (by omega)
    replace h := ite_f e0_ h
    exact False.elim h
  intro x1 I2 h
  refine q_i2l hX dL_formatKettle_7 rfl ?_
  replace h := wrL_e h
  refine q_last hX dL_formatKettle_8 ?_
  generalize (up2 _ _ _ _, Prod.snd _) = L3 at h ⊢
  refine q_goto hX dL_formatKettle_9 (tgt := 15) (by decide) ?_
  refine q_iconst hX dL_formatKettle_15 (v := (nI 0)) (by decide) ?_
  exact q_iretL hX hT dL_formatKettle_16 h (by omega) (by omega)
set_option maxRecDepth 100000 in
set_option maxHeartbeats 4000000 in
theorem w_L_formatOrder {l : Launch} {D : DT} {L : LT} {a1 : Int32} {I : IT} {K : Int32 → IT → LT → Prop} (hf : l.stackTraces = false)  (h : f_L_formatOrder a1 I L K) : ConW l D m_L_formatOrder [(0, 9, 12, 34)] 11 [.ref 0, .int a1, .ref 195] 11 3206 I L (PL K) := by
  refine ConW.of (by decide +kernel) (by simp [Value.category]) (Nat.le_of_ble_eq_true rfl) (fun X hX hT hN hB => ?_)
  have hX : OK X D cL_formatOrder "TeaHouseLaw" 4 := hX
  have hT : RTL X l D (some .int) (P2 (PL K)) 11 11 3206 := hT
  have hR := hT.1
  change J2 X D 4 0 0 I L 0 [.ref 0, .int a1, .ref 195, .retAddr 0] []
  rw [f_L_formatOrder] at h
  refine q_aload_n hX dL_formatOrder_0 rfl ?_
  refine q_iconst hX dL_formatOrder_1 (v := (nI 0)) (by decide) ?_
  refine q_aload_n hX dL_formatOrder_2 rfl ?_
  refine q_iload_n hX dL_formatOrder_3 rfl ?_
  refine q_W_i hX hR (w_X8_formatOrder hf  h) lk_L_130 (rc2_of (ci := 9) rfl rfl) dL_formatOrder_4 rfl rfl (Nat.le_of_ble_eq_true rfl) (by omega) (by omega) (by omega) ?_ ?_
  rotate_left
  · intro E I9_ h
    refine q_cs (k := "java/util/NoSuchElementException") (fun e0_ => ?_) (fun e0_ => ?_)
    · replace h := ite_t e0_ h
      subst e0_
      refine q_catchN hX hN hB 0 rfl rfl rfl (by decide +kernel) cl_L_34 ca_34 (by decide +kernel) dL_formatOrder_12 (by decide) ?_
      refine q_iconst hX dL_formatOrder_13 (v := (nI 1)) (by decide) ?_
      exact q_iretL hX hT dL_formatOrder_14 h (by omega) (by omega)
    replace h := ite_f e0_ h
    exact False.elim h
  intro x1 I2 h
  refine q_i2l hX dL_formatOrder_7 rfl ?_
  replace h := wrL_e h
  refine q_last hX dL_formatOrder_8 ?_
  generalize (up2 _ _ _ _, Prod.snd _) = L3 at h ⊢
  refine q_goto hX dL_formatOrder_9 (tgt := 15) (by decide) ?_
  refine q_iconst hX dL_formatOrder_15 (v := (nI 0)) (by decide) ?_
  exact q_iretL hX hT dL_formatOrder_16 h (by omega) (by omega)
set_option maxRecDepth 100000 in
set_option maxHeartbeats 4000000 in
theorem w_L_lineChar {l : Launch} {D : DT} {L : LT} {a1 : Int32} {I : IT} {K : Int32 → IT → LT → Prop} (hf : l.stackTraces = false)  (h : f_L_lineChar a1 I L K) : ConW l D m_L_lineChar [(0, 9, 12, 21)] 10 [.ref 0, .int a1, .ref 195] 1 6 I L (PL K) := by
  refine ConW.of (by decide +kernel) (by simp [Value.category]) (Nat.le_of_ble_eq_true rfl) (fun X hX hT hN hB => ?_)
  have hX : OK X D cL_lineChar "TeaHouseLaw" 4 := hX
  have hT : RTL X l D (some .int) (P2 (PL K)) 10 1 6 := hT
  have hR := hT.1
  change J2 X D 4 0 0 I L 0 [.ref 0, .int a1, .ref 195, .retAddr 0] []
  rw [f_L_lineChar] at h
  refine q_aload_n hX dL_lineChar_0 rfl ?_
  refine q_iconst hX dL_lineChar_1 (v := (nI 0)) (by decide) ?_
  refine q_aload_n hX dL_lineChar_2 rfl ?_
  refine q_iload_n hX dL_lineChar_3 rfl ?_
  refine q_W_cp hX hR (w_X8_lineChar hf  h) lk_L_133 (rc2_of (ci := 9) rfl rfl) dL_lineChar_4 rfl rfl (Nat.le_of_ble_eq_true rfl) (by omega) (by omega) (by omega) ?_ ?_
  rotate_left
  · intro E h
    refine q_cs (k := "java/lang/IndexOutOfBoundsException") (fun e0_ => ?_) (fun e0_ => ?_)
    · replace h := ite_t e0_ h
      subst e0_
      refine q_catchN hX hN hB 0 rfl rfl rfl (by decide +kernel) cl_L_21 ca_21 (by decide +kernel) dL_lineChar_12 (by decide) ?_
      refine q_iconst hX dL_lineChar_13 (v := (nI 1)) (by decide) ?_
      exact q_iretL hX hT dL_lineChar_14 h (by omega) (by omega)
    replace h := ite_f e0_ h
    exact False.elim h
  intro x1 hrx1 h
  refine q_i2l hX dL_lineChar_7 rfl ?_
  replace h := wrL_e h
  refine q_last hX dL_lineChar_8 ?_
  generalize (up2 _ _ _ _, Prod.snd _) = L2 at h ⊢
  refine q_goto hX dL_lineChar_9 (tgt := 15) (by decide) ?_
  refine q_iconst hX dL_lineChar_15 (v := (nI 0)) (by decide) ?_
  exact q_iretL hX hT dL_lineChar_16 h (by omega) (by omega)
set_option maxRecDepth 100000 in
set_option maxHeartbeats 4000000 in
theorem w_L_append {l : Launch} {D : DT} {L : LT} {a1 : Int32} {I : IT} {K : Int32 → IT → LT → Prop} (hf : l.stackTraces = false) (ha1 : isC a1) (h : f_L_append a1 I L K) : ConW l D m_L_append [(0, 9, 12, 13), (0, 9, 15, 15)] 7 [.ref 0, .int a1, .ref 195] 1 6 I L (PL K) := by
  refine ConW.of (by decide +kernel) (by simp [Value.category]) (Nat.le_of_ble_eq_true rfl) (fun X hX hT hN hB => ?_)
  have hX : OK X D cL_append "TeaHouseLaw" 4 := hX
  have hT : RTL X l D (some .int) (P2 (PL K)) 7 1 6 := hT
  have hR := hT.1
  change J2 X D 4 0 0 I L 0 [.ref 0, .int a1, .ref 195, .retAddr 0] []
  rw [f_L_append] at h
  refine q_aload_n hX dL_append_0 rfl ?_
  refine q_iconst hX dL_append_1 (v := (nI 0)) (by decide) ?_
  refine q_aload_n hX dL_append_2 rfl ?_
  refine q_iload_n hX dL_append_3 rfl ?_
  refine q_W_i hX hR (w_X8_append hf ha1 h) lk_L_137 (rc2_of (ci := 9) rfl rfl) dL_append_4 rfl rfl (Nat.le_of_ble_eq_true rfl) (by omega) (by omega) (by omega) ?_ ?_
  rotate_left
  · intro E I9_ h
    refine q_cs (k := "java/lang/IllegalArgumentException") (fun e0_ => ?_) (fun e0_ => ?_)
    · replace h := ite_t e0_ h
      subst e0_
      refine q_catchN hX hN hB 0 rfl rfl rfl (by decide +kernel) cl_L_13 ca_13 (by decide +kernel) dL_append_12 (by decide) ?_
      refine q_iconst hX dL_append_13 (v := (nI 1)) (by decide) ?_
      exact q_iretL hX hT dL_append_14 h (by omega) (by omega)
    replace h := ite_f e0_ h
    refine q_cs (k := "java/lang/IllegalStateException") (fun e1_ => ?_) (fun e1_ => ?_)
    · replace h := ite_t e1_ h
      subst e1_
      refine q_catchN hX hN hB 1 rfl rfl rfl (by decide +kernel) cl_L_15 ca_15 (by decide +kernel) dL_append_15 (by decide) ?_
      refine q_iconst hX dL_append_16 (v := (nI 2)) (by decide) ?_
      exact q_iretL hX hT dL_append_17 h (by omega) (by omega)
    replace h := ite_f e1_ h
    exact False.elim h
  intro x1 I2 h
  refine q_i2l hX dL_append_7 rfl ?_
  replace h := wrL_e h
  refine q_last hX dL_append_8 ?_
  generalize (up2 _ _ _ _, Prod.snd _) = L3 at h ⊢
  refine q_goto hX dL_append_9 (tgt := 18) (by decide) ?_
  refine q_iconst hX dL_append_18 (v := (nI 0)) (by decide) ?_
  exact q_iretL hX hT dL_append_19 h (by omega) (by omega)
set_option maxRecDepth 100000 in
set_option maxHeartbeats 4000000 in
theorem w_L_run {l : Launch} {D : DT} {L : LT}  {I : IT} {K : Int32 → IT → LT → Prop} (hf : l.stackTraces = false)  (h : f_L_run  I L K) : ConW l D m_L_run [(0, 8, 11, 13), (0, 8, 14, 15)] 14 [.ref 0, .ref 195] 1 6 I L (PL K) := by
  refine ConW.of (by decide +kernel) (by simp [Value.category]) (Nat.le_of_ble_eq_true rfl) (fun X hX hT hN hB => ?_)
  have hX : OK X D cL_run "TeaHouseLaw" 3 := hX
  have hT : RTL X l D (some .int) (P2 (PL K)) 14 1 6 := hT
  have hR := hT.1
  change J2 X D 3 0 0 I L 0 [.ref 0, .ref 195, .retAddr 0] []
  rw [f_L_run] at h
  refine q_aload_n hX dL_run_0 rfl ?_
  refine q_iconst hX dL_run_1 (v := (nI 0)) (by decide) ?_
  refine q_aload_n hX dL_run_2 rfl ?_
  refine q_W_i hX hR (w_X8_run hf  h) lk_L_141 (rc2_of (ci := 9) rfl rfl) dL_run_3 rfl rfl (Nat.le_of_ble_eq_true rfl) (by omega) (by omega) (by omega) ?_ ?_
  rotate_left
  · intro E I9_ h
    refine q_cs (k := "java/lang/IllegalArgumentException") (fun e0_ => ?_) (fun e0_ => ?_)
    · replace h := ite_t e0_ h
      subst e0_
      refine q_catchN hX hN hB 0 rfl rfl rfl (by decide +kernel) cl_L_13 ca_13 (by decide +kernel) dL_run_11 (by decide) ?_
      refine q_iconst hX dL_run_12 (v := (nI 1)) (by decide) ?_
      exact q_iretL hX hT dL_run_13 h (by omega) (by omega)
    replace h := ite_f e0_ h
    refine q_cs (k := "java/lang/IllegalStateException") (fun e1_ => ?_) (fun e1_ => ?_)
    · replace h := ite_t e1_ h
      subst e1_
      refine q_catchN hX hN hB 1 rfl rfl rfl (by decide +kernel) cl_L_15 ca_15 (by decide +kernel) dL_run_14 (by decide) ?_
      refine q_iconst hX dL_run_15 (v := (nI 2)) (by decide) ?_
      exact q_iretL hX hT dL_run_16 h (by omega) (by omega)
    replace h := ite_f e1_ h
    exact False.elim h
  intro x1 I2 h
  refine q_i2l hX dL_run_6 rfl ?_
  replace h := wrL_e h
  refine q_last hX dL_run_7 ?_
  generalize (up2 _ _ _ _, Prod.snd _) = L3 at h ⊢
  refine q_goto hX dL_run_8 (tgt := 17) (by decide) ?_
  refine q_iconst hX dL_run_17 (v := (nI 0)) (by decide) ?_
  exact q_iretL hX hT dL_run_18 h (by omega) (by omega)
set_option maxRecDepth 100000 in
set_option maxHeartbeats 4000000 in
theorem w_L_errorPosition {l : Launch} {D : DT} {L : LT}  {I : IT} {K : Int32 → IT → LT → Prop} (hf : l.stackTraces = false)  (h : f_L_errorPosition  I L K) : ConW l D m_L_errorPosition [(0, 8, 11, 34)] 8 [.ref 0, .ref 195] 1 6 I L (PL K) := by
  refine ConW.of (by decide +kernel) (by simp [Value.category]) (Nat.le_of_ble_eq_true rfl) (fun X hX hT hN hB => ?_)
  have hX : OK X D cL_errorPosition "TeaHouseLaw" 3 := hX
  have hT : RTL X l D (some .int) (P2 (PL K)) 8 1 6 := hT
  have hR := hT.1
  change J2 X D 3 0 0 I L 0 [.ref 0, .ref 195, .retAddr 0] []
  rw [f_L_errorPosition] at h
  refine q_aload_n hX dL_errorPosition_0 rfl ?_
  refine q_iconst hX dL_errorPosition_1 (v := (nI 0)) (by decide) ?_
  refine q_aload_n hX dL_errorPosition_2 rfl ?_
  refine q_W_ip hX hR (w_X8_errorPosition hf  h) lk_L_144 (rc2_of (ci := 9) rfl rfl) dL_errorPosition_3 rfl rfl (Nat.le_of_ble_eq_true rfl) (by omega) (by omega) (by omega) ?_ ?_
  rotate_left
  · intro E h
    refine q_cs (k := "java/util/NoSuchElementException") (fun e0_ => ?_) (fun e0_ => ?_)
    · replace h := ite_t e0_ h
      subst e0_
      refine q_catchN hX hN hB 0 rfl rfl rfl (by decide +kernel) cl_L_34 ca_34 (by decide +kernel) dL_errorPosition_11 (by decide) ?_
      refine q_iconst hX dL_errorPosition_12 (v := (nI 1)) (by decide) ?_
      exact q_iretL hX hT dL_errorPosition_13 h (by omega) (by omega)
    replace h := ite_f e0_ h
    exact False.elim h
  intro x1 h
  refine q_i2l hX dL_errorPosition_6 rfl ?_
  replace h := wrL_e h
  refine q_last hX dL_errorPosition_7 ?_
  generalize (up2 _ _ _ _, Prod.snd _) = L2 at h ⊢
  refine q_goto hX dL_errorPosition_8 (tgt := 14) (by decide) ?_
  refine q_iconst hX dL_errorPosition_14 (v := (nI 0)) (by decide) ?_
  exact q_iretL hX hT dL_errorPosition_15 h (by omega) (by omega)
set_option maxRecDepth 100000 in
set_option maxHeartbeats 4000000 in
theorem w_L_failedCommand {l : Launch} {D : DT} {L : LT}  {I : IT} {K : Int32 → IT → LT → Prop} (hf : l.stackTraces = false)  (h : f_L_failedCommand  I L K) : ConW l D m_L_failedCommand [(0, 8, 11, 34)] 8 [.ref 0, .ref 195] 1 6 I L (PL K) := by
  refine ConW.of (by decide +kernel) (by simp [Value.category]) (Nat.le_of_ble_eq_true rfl) (fun X hX hT hN hB => ?_)
  have hX : OK X D cL_failedCommand "TeaHouseLaw" 3 := hX
  have hT : RTL X l D (some .int) (P2 (PL K)) 8 1 6 := hT
  have hR := hT.1
  change J2 X D 3 0 0 I L 0 [.ref 0, .ref 195, .retAddr 0] []
  rw [f_L_failedCommand] at h
  refine q_aload_n hX dL_failedCommand_0 rfl ?_
  refine q_iconst hX dL_failedCommand_1 (v := (nI 0)) (by decide) ?_
  refine q_aload_n hX dL_failedCommand_2 rfl ?_
  refine q_W_ip hX hR (w_X8_failedCommand hf  h) lk_L_147 (rc2_of (ci := 9) rfl rfl) dL_failedCommand_3 rfl rfl (Nat.le_of_ble_eq_true rfl) (by omega) (by omega) (by omega) ?_ ?_
  rotate_left
  · intro E h
    refine q_cs (k := "java/util/NoSuchElementException") (fun e0_ => ?_) (fun e0_ => ?_)
    · replace h := ite_t e0_ h
      subst e0_
      refine q_catchN hX hN hB 0 rfl rfl rfl (by decide +kernel) cl_L_34 ca_34 (by decide +kernel) dL_failedCommand_11 (by decide) ?_
      refine q_iconst hX dL_failedCommand_12 (v := (nI 1)) (by decide) ?_
      exact q_iretL hX hT dL_failedCommand_13 h (by omega) (by omega)
    replace h := ite_f e0_ h
    exact False.elim h
  intro x1 h
  refine q_i2l hX dL_failedCommand_6 rfl ?_
  replace h := wrL_e h
  refine q_last hX dL_failedCommand_7 ?_
  generalize (up2 _ _ _ _, Prod.snd _) = L2 at h ⊢
  refine q_goto hX dL_failedCommand_8 (tgt := 14) (by decide) ?_
  refine q_iconst hX dL_failedCommand_14 (v := (nI 0)) (by decide) ?_
  exact q_iretL hX hT dL_failedCommand_15 h (by omega) (by omega)
set_option maxRecDepth 100000 in
set_option maxHeartbeats 4000000 in
theorem w_L_undo {l : Launch} {D : DT} {L : LT}  {I : IT} {K : Int32 → IT → LT → Prop} (hf : l.stackTraces = false)  (h : f_L_undo  I L K) : ConW l D m_L_undo [(0, 8, 11, 15)] 7 [.ref 0, .ref 195] 1 6 I L (PL K) := by
  refine ConW.of (by decide +kernel) (by simp [Value.category]) (Nat.le_of_ble_eq_true rfl) (fun X hX hT hN hB => ?_)
  have hX : OK X D cL_undo "TeaHouseLaw" 3 := hX
  have hT : RTL X l D (some .int) (P2 (PL K)) 7 1 6 := hT
  have hR := hT.1
  change J2 X D 3 0 0 I L 0 [.ref 0, .ref 195, .retAddr 0] []
  rw [f_L_undo] at h
  refine q_aload_n hX dL_undo_0 rfl ?_
  refine q_iconst hX dL_undo_1 (v := (nI 0)) (by decide) ?_
  refine q_aload_n hX dL_undo_2 rfl ?_
  refine q_W_i hX hR (w_X8_undo hf  h) lk_L_150 (rc2_of (ci := 9) rfl rfl) dL_undo_3 rfl rfl (Nat.le_of_ble_eq_true rfl) (by omega) (by omega) (by omega) ?_ ?_
  rotate_left
  · intro E I9_ h
    refine q_cs (k := "java/lang/IllegalStateException") (fun e0_ => ?_) (fun e0_ => ?_)
    · replace h := ite_t e0_ h
      subst e0_
      refine q_catchN hX hN hB 0 rfl rfl rfl (by decide +kernel) cl_L_15 ca_15 (by decide +kernel) dL_undo_11 (by decide) ?_
      refine q_iconst hX dL_undo_12 (v := (nI 1)) (by decide) ?_
      exact q_iretL hX hT dL_undo_13 h (by omega) (by omega)
    replace h := ite_f e0_ h
    exact False.elim h
  intro x1 I2 h
  refine q_i2l hX dL_undo_6 rfl ?_
  replace h := wrL_e h
  refine q_last hX dL_undo_7 ?_
  generalize (up2 _ _ _ _, Prod.snd _) = L3 at h ⊢
  refine q_goto hX dL_undo_8 (tgt := 14) (by decide) ?_
  refine q_iconst hX dL_undo_14 (v := (nI 0)) (by decide) ?_
  exact q_iretL hX hT dL_undo_15 h (by omega) (by omega)
set_option maxRecDepth 100000 in
set_option maxHeartbeats 4000000 in
theorem w_L_restore {l : Launch} {D : DT} {L : LT}  {I : IT} {K : Int32 → IT → LT → Prop} (hf : l.stackTraces = false)  (h : f_L_restore  I L K) : ConW l D m_L_restore [(0, 8, 11, 15)] 7 [.ref 0, .ref 195] 1 6 I L (PL K) := by
  refine ConW.of (by decide +kernel) (by simp [Value.category]) (Nat.le_of_ble_eq_true rfl) (fun X hX hT hN hB => ?_)
  have hX : OK X D cL_restore "TeaHouseLaw" 3 := hX
  have hT : RTL X l D (some .int) (P2 (PL K)) 7 1 6 := hT
  have hR := hT.1
  change J2 X D 3 0 0 I L 0 [.ref 0, .ref 195, .retAddr 0] []
  rw [f_L_restore] at h
  refine q_aload_n hX dL_restore_0 rfl ?_
  refine q_iconst hX dL_restore_1 (v := (nI 0)) (by decide) ?_
  refine q_aload_n hX dL_restore_2 rfl ?_
  refine q_W_i hX hR (w_X8_restore hf  h) lk_L_153 (rc2_of (ci := 9) rfl rfl) dL_restore_3 rfl rfl (Nat.le_of_ble_eq_true rfl) (by omega) (by omega) (by omega) ?_ ?_
  rotate_left
  · intro E I9_ h
    refine q_cs (k := "java/lang/IllegalStateException") (fun e0_ => ?_) (fun e0_ => ?_)
    · replace h := ite_t e0_ h
      subst e0_
      refine q_catchN hX hN hB 0 rfl rfl rfl (by decide +kernel) cl_L_15 ca_15 (by decide +kernel) dL_restore_11 (by decide) ?_
      refine q_iconst hX dL_restore_12 (v := (nI 1)) (by decide) ?_
      exact q_iretL hX hT dL_restore_13 h (by omega) (by omega)
    replace h := ite_f e0_ h
    exact False.elim h
  intro x1 I2 h
  refine q_i2l hX dL_restore_6 rfl ?_
  replace h := wrL_e h
  refine q_last hX dL_restore_7 ?_
  generalize (up2 _ _ _ _, Prod.snd _) = L3 at h ⊢
  refine q_goto hX dL_restore_8 (tgt := 14) (by decide) ?_
  refine q_iconst hX dL_restore_14 (v := (nI 0)) (by decide) ?_
  exact q_iretL hX hT dL_restore_15 h (by omega) (by omega)
