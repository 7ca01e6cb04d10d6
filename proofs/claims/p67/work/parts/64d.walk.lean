set_option maxRecDepth 100000 in
set_option maxHeartbeats 4000000 in
theorem w_L_cell {l : Launch} {D : DT} {L : LT} {xs : Nat → Int32} {nn : Nat} {a1 : Int32} {I : IT} {K : Int32 → IT → Prop} (hf : l.stackTraces = false)  (h : f_L_cell xs nn a1 I K) : ConL l D nn xs m_L_cell 1 [.ref 1000300, .int a1] 0 0 I L (Pi L K) := by
  refine ConL.of (by decide +kernel) (by simp [Value.category]) (Nat.le_of_ble_eq_true rfl) (fun X hX hT hN hS => ?_)
  have hX : OK X D cL_cell "TeaHouseLaw" 2 := hX
  have hT : RT X l D (some .int) (P2 (Pi L K)) 1 0 0 := hT
  have hR := hT.room
  change J2 X D 2 0 0 I L 0 [.ref 1000300, .int a1] []
  rw [f_L_cell] at h
  refine q_iload_n hX dL_cell_0 rfl ?_
  refine q_aload_n hX dL_cell_1 rfl ?_
  refine q_slen hX hS dL_cell_2 ?_
  refine q_icmp_ge hX dL_cell_3 (tgt := 12) (by decide) (fun q1 => ?_) (fun q1 => ?_)
  · replace h := ite_t q1 h
    refine q_sipush hX dL_cell_12 (v := (nI 7919)) (by decide) ?_
    refine q_iload_n hX dL_cell_15 rfl ?_
    refine q_imul hX dL_cell_16 ?_
    refine q_bipush hX dL_cell_17 (v := (nI 12)) (by decide) ?_
    refine q_iadd hX dL_cell_19 ?_
    exact q_iret hX hT dL_cell_20 h
  · replace h := ite_f q1 h
    refine q_aload_n hX dL_cell_6 rfl ?_
    refine q_iload_n hX dL_cell_7 rfl ?_
    obtain ⟨z2, h⟩ := h
    refine q_sld hX hS dL_cell_8 z2 ?_
    refine q_goto hX dL_cell_9 (tgt := 20) (by decide) ?_
    exact q_iret hX hT dL_cell_20 h
set_option maxRecDepth 100000 in
set_option maxHeartbeats 4000000 in
theorem w_L_some {l : Launch} {D : DT} {L : LT} {xs : Nat → Int32} {nn : Nat} {a1 : Int32} {a2 : Int32} {I : IT} {K : Int32 → IT → Prop} (hf : l.stackTraces = false)  (h : f_L_some xs nn a1 a2 I K) : ConL l D nn xs m_L_some 2 [.ref 1000300, .int a1, .int a2] 0 0 I L (Pi L K) := by
  refine ConL.of (by decide +kernel) (by simp [Value.category]) (Nat.le_of_ble_eq_true rfl) (fun X hX hT hN hS => ?_)
  have hX : OK X D cL_some "TeaHouseLaw" 3 := hX
  have hT : RT X l D (some .int) (P2 (Pi L K)) 2 0 0 := hT
  have hR := hT.room
  change J2 X D 3 0 0 I L 0 [.ref 1000300, .int a1, .int a2] []
  rw [f_L_some] at h
  refine q_aload_n hX dL_some_0 rfl ?_
  refine q_iload_n hX dL_some_1 rfl ?_
  refine q_SL_i hX hR hN hS (w_L_cell hf  h) lk_L_7 dL_some_2 rfl rfl (Nat.le_of_ble_eq_true rfl) (by omega) (by omega) (by omega) ?_
  intro x1 I2 h
  refine q_iconst hX dL_some_5 (v := (nI 3)) (by decide) ?_
  refine q_iushr hX dL_some_6 (v := ushr3 _) rfl ?_
  refine q_iload_n hX dL_some_7 rfl ?_
  obtain ⟨z3, h⟩ := h
  refine q_irem hX dL_some_8 z3 ?_
  exact q_iret hX hT dL_some_9 h
set_option maxRecDepth 100000 in
set_option maxHeartbeats 4000000 in
theorem w_L_addKettle {l : Launch} {D : DT} {L : LT} {xs : Nat → Int32} {nn : Nat} {a1 : Int32} {I : IT} {K : Int32 → IT → Prop} (hf : l.stackTraces = false)  (h : f_L_addKettle xs nn a1 I K) : ConLW l D nn xs m_L_addKettle [(0, 5, 6, 19), (0, 5, 11, 21)] 9 [.ref 0, .int a1] 1 6 I L (Pi L K) := by
  refine ConLW.of (by decide +kernel) (by simp [Value.category]) (Nat.le_of_ble_eq_true rfl) (fun X hX hT hN hS hB => ?_)
  have hX : OK X D cL_addKettle "TeaHouseLaw" 3 := hX
  have hT : RTL X l D (some .int) (P2 (Pi L K)) 9 1 6 := hT
  have hR := hT.1
  change J2 X D 3 0 0 I L 0 [.ref 0, .int a1, .retAddr 0] []
  rw [f_L_addKettle] at h
  refine q_aload_n hX dL_addKettle_0 rfl ?_
  refine q_iload_n hX dL_addKettle_1 rfl ?_
  refine q_W_i hX hR (w_X8_addKettle hf  h) lk_L_13 (rc2_of (ci := 9) rfl rfl) dL_addKettle_2 rfl rfl (Nat.le_of_ble_eq_true rfl) (by omega) (by omega) (by omega) ?_ ?_
  rotate_left
  · intro E I9_ h
    refine q_cs (k := "java/lang/IllegalArgumentException") (fun e0_ => ?_) (fun e0_ => ?_)
    · replace h := ite_t e0_ h
      subst e0_
      refine q_catchN hX hN hB 0 rfl rfl rfl (by decide +kernel) cl_L_19 ca_19 (by decide +kernel) dL_addKettle_6 (by decide) ?_
      refine q_sipush hX dL_addKettle_7 (v := (-20000)) (by decide) ?_
      exact q_iretL hX hT dL_addKettle_10 h (by omega) (by omega)
    replace h := ite_f e0_ h
    refine q_cs (k := "java/lang/IllegalStateException") (fun e1_ => ?_) (fun e1_ => ?_)
    · replace h := ite_t e1_ h
      subst e1_
      refine q_catchN hX hN hB 1 rfl rfl rfl (by decide +kernel) cl_L_21 ca_21 (by decide +kernel) dL_addKettle_11 (by decide) ?_
      refine q_sipush hX dL_addKettle_12 (v := (-10000)) (by decide) ?_
      exact q_iretL hX hT dL_addKettle_15 h (by omega) (by omega)
    replace h := ite_f e1_ h
    exact False.elim h
  intro x1 I2 h
  exact q_iretL hX hT dL_addKettle_5 h (by omega) (by omega)
set_option maxRecDepth 100000 in
set_option maxHeartbeats 4000000 in
theorem w_L_fill {l : Launch} {D : DT} {L : LT} {xs : Nat → Int32} {nn : Nat} {a1 : Int32} {a2 : Int32} {I : IT} {K : UInt32 → IT → Prop} (hf : l.stackTraces = false)  (h : f_L_fill xs nn a1 a2 I K) : ConLW l D nn xs m_L_fill [(0, 6, 7, 27), (0, 6, 11, 19), (0, 6, 15, 21)] 9 [.ref 0, .int a1, .int a2] 1 6 I L (Pf L K) := by
  refine ConLW.of (by decide +kernel) (by simp [Value.category]) (Nat.le_of_ble_eq_true rfl) (fun X hX hT hN hS hB => ?_)
  have hX : OK X D cL_fill "TeaHouseLaw" 4 := hX
  have hT : RTL X l D (some .float) (P2 (Pf L K)) 9 1 6 := hT
  have hR := hT.1
  change J2 X D 4 0 0 I L 0 [.ref 0, .int a1, .int a2, .retAddr 0] []
  rw [f_L_fill] at h
  refine q_aload_n hX dL_fill_0 rfl ?_
  refine q_iload_n hX dL_fill_1 rfl ?_
  refine q_iload_n hX dL_fill_2 rfl ?_
  refine q_W_f hX hR (w_X8_fill hf  h) lk_L_23 (rc2_of (ci := 9) rfl rfl) dL_fill_3 rfl rfl (Nat.le_of_ble_eq_true rfl) (by omega) (by omega) (by omega) ?_ ?_
  rotate_left
  · intro E I9_ h
    refine q_cs (k := "java/lang/IndexOutOfBoundsException") (fun e0_ => ?_) (fun e0_ => ?_)
    · replace h := ite_t e0_ h
      subst e0_
      refine q_catchN hX hN hB 0 rfl rfl rfl (by decide +kernel) cl_L_27 ca_27 (by decide +kernel) dL_fill_7 (by decide) ?_
      refine q_ldcf hX kc_L_29 dL_fill_8 ?_
      exact q_fretL hX hT dL_fill_10 h (by omega) (by omega)
    replace h := ite_f e0_ h
    refine q_cs (k := "java/lang/IllegalArgumentException") (fun e1_ => ?_) (fun e1_ => ?_)
    · replace h := ite_t e1_ h
      subst e1_
      refine q_catchN hX hN hB 1 rfl rfl rfl (by decide +kernel) cl_L_19 ca_19 (by decide +kernel) dL_fill_11 (by decide) ?_
      refine q_ldcf hX kc_L_30 dL_fill_12 ?_
      exact q_fretL hX hT dL_fill_14 h (by omega) (by omega)
    replace h := ite_f e1_ h
    refine q_cs (k := "java/lang/IllegalStateException") (fun e2_ => ?_) (fun e2_ => ?_)
    · replace h := ite_t e2_ h
      subst e2_
      refine q_catchN hX hN hB 2 rfl rfl rfl (by decide +kernel) cl_L_21 ca_21 (by decide +kernel) dL_fill_15 (by decide) ?_
      refine q_ldcf hX kc_L_31 dL_fill_16 ?_
      exact q_fretL hX hT dL_fill_18 h (by omega) (by omega)
    replace h := ite_f e2_ h
    exact False.elim h
  intro x1 I2 h
  exact q_fretL hX hT dL_fill_6 h (by omega) (by omega)
set_option maxRecDepth 100000 in
set_option maxHeartbeats 4000000 in
theorem w_L_setBurner {l : Launch} {D : DT} {L : LT} {xs : Nat → Int32} {nn : Nat} {a1 : Int32} {a2 : Int32} {I : IT} {K : Int32 → IT → Prop} (hf : l.stackTraces = false)  (h : f_L_setBurner xs nn a1 a2 I K) : ConLW l D nn xs m_L_setBurner [(0, 6, 7, 27), (0, 6, 12, 19)] 9 [.ref 0, .int a1, .int a2] 1 6 I L (Pi L K) := by
  refine ConLW.of (by decide +kernel) (by simp [Value.category]) (Nat.le_of_ble_eq_true rfl) (fun X hX hT hN hS hB => ?_)
  have hX : OK X D cL_setBurner "TeaHouseLaw" 4 := hX
  have hT : RTL X l D (some .int) (P2 (Pi L K)) 9 1 6 := hT
  have hR := hT.1
  change J2 X D 4 0 0 I L 0 [.ref 0, .int a1, .int a2, .retAddr 0] []
  rw [f_L_setBurner] at h
  refine q_aload_n hX dL_setBurner_0 rfl ?_
  refine q_iload_n hX dL_setBurner_1 rfl ?_
  refine q_iload_n hX dL_setBurner_2 rfl ?_
  refine q_W_i hX hR (w_X8_setBurner hf  h) lk_L_32 (rc2_of (ci := 9) rfl rfl) dL_setBurner_3 rfl rfl (Nat.le_of_ble_eq_true rfl) (by omega) (by omega) (by omega) ?_ ?_
  rotate_left
  · intro E I9_ h
    refine q_cs (k := "java/lang/IndexOutOfBoundsException") (fun e0_ => ?_) (fun e0_ => ?_)
    · replace h := ite_t e0_ h
      subst e0_
      refine q_catchN hX hN hB 0 rfl rfl rfl (by decide +kernel) cl_L_27 ca_27 (by decide +kernel) dL_setBurner_7 (by decide) ?_
      refine q_sipush hX dL_setBurner_8 (v := (-25000)) (by decide) ?_
      exact q_iretL hX hT dL_setBurner_11 h (by omega) (by omega)
    replace h := ite_f e0_ h
    refine q_cs (k := "java/lang/IllegalArgumentException") (fun e1_ => ?_) (fun e1_ => ?_)
    · replace h := ite_t e1_ h
      subst e1_
      refine q_catchN hX hN hB 1 rfl rfl rfl (by decide +kernel) cl_L_19 ca_19 (by decide +kernel) dL_setBurner_12 (by decide) ?_
      refine q_sipush hX dL_setBurner_13 (v := (-20000)) (by decide) ?_
      exact q_iretL hX hT dL_setBurner_16 h (by omega) (by omega)
    replace h := ite_f e1_ h
    exact False.elim h
  intro x1 I2 h
  exact q_iretL hX hT dL_setBurner_6 h (by omega) (by omega)
set_option maxRecDepth 100000 in
set_option maxHeartbeats 4000000 in
theorem w_L_order {l : Launch} {D : DT} {L : LT} {xs : Nat → Int32} {nn : Nat} {a1 : Int32} {a2 : Int32} {a3 : Int32} {a4 : Int32} {I : IT} {K : Int32 → IT → Prop} (hf : l.stackTraces = false)  (h : f_L_order xs nn a1 a2 a3 a4 I K) : ConLW l D nn xs m_L_order [(0, 9, 10, 19), (0, 9, 16, 21)] 9 [.ref 0, .int a1, .int a2, .int a3, .int a4] 1 6 I L (Pi L K) := by
  refine ConLW.of (by decide +kernel) (by simp [Value.category]) (Nat.le_of_ble_eq_true rfl) (fun X hX hT hN hS hB => ?_)
  have hX : OK X D cL_order "TeaHouseLaw" 6 := hX
  have hT : RTL X l D (some .int) (P2 (Pi L K)) 9 1 6 := hT
  have hR := hT.1
  change J2 X D 6 0 0 I L 0 [.ref 0, .int a1, .int a2, .int a3, .int a4, .retAddr 0] []
  rw [f_L_order] at h
  refine q_aload_n hX dL_order_0 rfl ?_
  refine q_iload_n hX dL_order_1 rfl ?_
  refine q_iload_n hX dL_order_2 rfl ?_
  refine q_iload_n hX dL_order_3 rfl ?_
  refine q_iload hX dL_order_4 rfl ?_
  refine q_W_i hX hR (w_X8_order hf  h) lk_L_36 (rc2_of (ci := 9) rfl rfl) dL_order_6 rfl rfl (Nat.le_of_ble_eq_true rfl) (by omega) (by omega) (by omega) ?_ ?_
  rotate_left
  · intro E I9_ h
    refine q_cs (k := "java/lang/IllegalArgumentException") (fun e0_ => ?_) (fun e0_ => ?_)
    · replace h := ite_t e0_ h
      subst e0_
      refine q_catch hX hN hB 0 rfl rfl rfl (by decide +kernel) cl_L_19 ca_19 (by decide +kernel) dL_order_10 (by decide) ?_
      refine q_sipush hX dL_order_12 (v := (-20000)) (by decide) ?_
      exact q_iretL hX hT dL_order_15 h (by omega) (by omega)
    replace h := ite_f e0_ h
    refine q_cs (k := "java/lang/IllegalStateException") (fun e1_ => ?_) (fun e1_ => ?_)
    · replace h := ite_t e1_ h
      subst e1_
      refine q_catch hX hN hB 1 rfl rfl rfl (by decide +kernel) cl_L_21 ca_21 (by decide +kernel) dL_order_16 (by decide) ?_
      refine q_sipush hX dL_order_18 (v := (-10000)) (by decide) ?_
      exact q_iretL hX hT dL_order_21 h (by omega) (by omega)
    replace h := ite_f e1_ h
    exact False.elim h
  intro x1 I2 h
  exact q_iretL hX hT dL_order_9 h (by omega) (by omega)
set_option maxRecDepth 100000 in
set_option maxHeartbeats 4000000 in
theorem w_L_cancel {l : Launch} {D : DT} {L : LT} {xs : Nat → Int32} {nn : Nat} {a1 : Int32} {I : IT} {K : Int32 → IT → Prop} (hf : l.stackTraces = false)  (h : f_L_cancel xs nn a1 I K) : ConLW l D nn xs m_L_cancel [(0, 5, 6, 43)] 9 [.ref 0, .int a1] 1 6 I L (Pi L K) := by
  refine ConLW.of (by decide +kernel) (by simp [Value.category]) (Nat.le_of_ble_eq_true rfl) (fun X hX hT hN hS hB => ?_)
  have hX : OK X D cL_cancel "TeaHouseLaw" 3 := hX
  have hT : RTL X l D (some .int) (P2 (Pi L K)) 9 1 6 := hT
  have hR := hT.1
  change J2 X D 3 0 0 I L 0 [.ref 0, .int a1, .retAddr 0] []
  rw [f_L_cancel] at h
  refine q_aload_n hX dL_cancel_0 rfl ?_
  refine q_iload_n hX dL_cancel_1 rfl ?_
  refine q_W_i hX hR (w_X8_cancel hf  h) lk_L_40 (rc2_of (ci := 9) rfl rfl) dL_cancel_2 rfl rfl (Nat.le_of_ble_eq_true rfl) (by omega) (by omega) (by omega) ?_ ?_
  rotate_left
  · intro E I9_ h
    refine q_cs (k := "java/util/NoSuchElementException") (fun e0_ => ?_) (fun e0_ => ?_)
    · replace h := ite_t e0_ h
      subst e0_
      refine q_catchN hX hN hB 0 rfl rfl rfl (by decide +kernel) cl_L_43 ca_43 (by decide +kernel) dL_cancel_6 (by decide) ?_
      refine q_sipush hX dL_cancel_7 (v := (-30000)) (by decide) ?_
      exact q_iretL hX hT dL_cancel_10 h (by omega) (by omega)
    replace h := ite_f e0_ h
    exact False.elim h
  intro x1 I2 h
  exact q_iretL hX hT dL_cancel_5 h (by omega) (by omega)
set_option maxRecDepth 100000 in
set_option maxHeartbeats 4000000 in
theorem w_L_serveNext {l : Launch} {D : DT} {L : LT} {xs : Nat → Int32} {nn : Nat}  {I : IT} {K : Int32 → IT → Prop} (hf : l.stackTraces = false)  (h : f_L_serveNext xs nn I K) : ConLW l D nn xs m_L_serveNext [(0, 4, 5, 21)] 9 [.ref 0] 1 6 I L (Pi L K) := by
  refine ConLW.of (by decide +kernel) (by simp [Value.category]) (Nat.le_of_ble_eq_true rfl) (fun X hX hT hN hS hB => ?_)
  have hX : OK X D cL_serveNext "TeaHouseLaw" 2 := hX
  have hT : RTL X l D (some .int) (P2 (Pi L K)) 9 1 6 := hT
  have hR := hT.1
  change J2 X D 2 0 0 I L 0 [.ref 0, .retAddr 0] []
  rw [f_L_serveNext] at h
  refine q_aload_n hX dL_serveNext_0 rfl ?_
  refine q_W_i hX hR (w_X8_serveNext hf  h) lk_L_45 (rc2_of (ci := 9) rfl rfl) dL_serveNext_1 rfl rfl (Nat.le_of_ble_eq_true rfl) (by omega) (by omega) (by omega) ?_ ?_
  rotate_left
  · intro E I9_ h
    refine q_cs (k := "java/lang/IllegalStateException") (fun e0_ => ?_) (fun e0_ => ?_)
    · replace h := ite_t e0_ h
      subst e0_
      refine q_catchN hX hN hB 0 rfl rfl rfl (by decide +kernel) cl_L_21 ca_21 (by decide +kernel) dL_serveNext_5 (by decide) ?_
      refine q_sipush hX dL_serveNext_6 (v := (-10000)) (by decide) ?_
      exact q_iretL hX hT dL_serveNext_9 h (by omega) (by omega)
    replace h := ite_f e0_ h
    exact False.elim h
  intro x1 I2 h
  exact q_iretL hX hT dL_serveNext_4 h (by omega) (by omega)
set_option maxRecDepth 100000 in
set_option maxHeartbeats 4000000 in
theorem w_L_wash {l : Launch} {D : DT} {L : LT} {xs : Nat → Int32} {nn : Nat} {a1 : Int32} {I : IT} {K : Int32 → IT → Prop} (hf : l.stackTraces = false)  (h : f_L_wash xs nn a1 I K) : ConLW l D nn xs m_L_wash [(0, 5, 6, 19), (0, 5, 11, 21)] 9 [.ref 0, .int a1] 1 6 I L (Pi L K) := by
  refine ConLW.of (by decide +kernel) (by simp [Value.category]) (Nat.le_of_ble_eq_true rfl) (fun X hX hT hN hS hB => ?_)
  have hX : OK X D cL_wash "TeaHouseLaw" 3 := hX
  have hT : RTL X l D (some .int) (P2 (Pi L K)) 9 1 6 := hT
  have hR := hT.1
  change J2 X D 3 0 0 I L 0 [.ref 0, .int a1, .retAddr 0] []
  rw [f_L_wash] at h
  refine q_aload_n hX dL_wash_0 rfl ?_
  refine q_iload_n hX dL_wash_1 rfl ?_
  refine q_W_i hX hR (w_X8_wash hf  h) lk_L_49 (rc2_of (ci := 9) rfl rfl) dL_wash_2 rfl rfl (Nat.le_of_ble_eq_true rfl) (by omega) (by omega) (by omega) ?_ ?_
  rotate_left
  · intro E I9_ h
    refine q_cs (k := "java/lang/IllegalArgumentException") (fun e0_ => ?_) (fun e0_ => ?_)
    · replace h := ite_t e0_ h
      subst e0_
      refine q_catchN hX hN hB 0 rfl rfl rfl (by decide +kernel) cl_L_19 ca_19 (by decide +kernel) dL_wash_6 (by decide) ?_
      refine q_sipush hX dL_wash_7 (v := (-20000)) (by decide) ?_
      exact q_iretL hX hT dL_wash_10 h (by omega) (by omega)
    replace h := ite_f e0_ h
    refine q_cs (k := "java/lang/IllegalStateException") (fun e1_ => ?_) (fun e1_ => ?_)
    · replace h := ite_t e1_ h
      subst e1_
      refine q_catchN hX hN hB 1 rfl rfl rfl (by decide +kernel) cl_L_21 ca_21 (by decide +kernel) dL_wash_11 (by decide) ?_
      refine q_sipush hX dL_wash_12 (v := (-10000)) (by decide) ?_
      exact q_iretL hX hT dL_wash_15 h (by omega) (by omega)
    replace h := ite_f e1_ h
    exact False.elim h
  intro x1 I2 h
  exact q_iretL hX hT dL_wash_5 h (by omega) (by omega)
set_option maxRecDepth 100000 in
set_option maxHeartbeats 4000000 in
theorem w_L_sellSteam {l : Launch} {D : DT} {L : LT} {xs : Nat → Int32} {nn : Nat} {a1 : Int32} {I : IT} {K : UInt32 → IT → Prop} (hf : l.stackTraces = false)  (h : f_L_sellSteam xs nn a1 I K) : ConLW l D nn xs m_L_sellSteam [(0, 5, 6, 19), (0, 5, 10, 21)] 9 [.ref 0, .int a1] 1 6 I L (Pf L K) := by
  refine ConLW.of (by decide +kernel) (by simp [Value.category]) (Nat.le_of_ble_eq_true rfl) (fun X hX hT hN hS hB => ?_)
  have hX : OK X D cL_sellSteam "TeaHouseLaw" 3 := hX
  have hT : RTL X l D (some .float) (P2 (Pf L K)) 9 1 6 := hT
  have hR := hT.1
  change J2 X D 3 0 0 I L 0 [.ref 0, .int a1, .retAddr 0] []
  rw [f_L_sellSteam] at h
  refine q_aload_n hX dL_sellSteam_0 rfl ?_
  refine q_iload_n hX dL_sellSteam_1 rfl ?_
  refine q_W_f hX hR (w_X8_sellSteam hf  h) lk_L_52 (rc2_of (ci := 9) rfl rfl) dL_sellSteam_2 rfl rfl (Nat.le_of_ble_eq_true rfl) (by omega) (by omega) (by omega) ?_ ?_
  rotate_left
  · intro E I9_ h
    refine q_cs (k := "java/lang/IllegalArgumentException") (fun e0_ => ?_) (fun e0_ => ?_)
    · replace h := ite_t e0_ h
      subst e0_
      refine q_catchN hX hN hB 0 rfl rfl rfl (by decide +kernel) cl_L_19 ca_19 (by decide +kernel) dL_sellSteam_6 (by decide) ?_
      refine q_ldcf hX kc_L_30 dL_sellSteam_7 ?_
      exact q_fretL hX hT dL_sellSteam_9 h (by omega) (by omega)
    replace h := ite_f e0_ h
    refine q_cs (k := "java/lang/IllegalStateException") (fun e1_ => ?_) (fun e1_ => ?_)
    · replace h := ite_t e1_ h
      subst e1_
      refine q_catchN hX hN hB 1 rfl rfl rfl (by decide +kernel) cl_L_21 ca_21 (by decide +kernel) dL_sellSteam_10 (by decide) ?_
      refine q_ldcf hX kc_L_31 dL_sellSteam_11 ?_
      exact q_fretL hX hT dL_sellSteam_13 h (by omega) (by omega)
    replace h := ite_f e1_ h
    exact False.elim h
  intro x1 I2 h
  exact q_fretL hX hT dL_sellSteam_5 h (by omega) (by omega)
set_option maxRecDepth 100000 in
set_option maxHeartbeats 4000000 in
theorem w_L_setCupPrice {l : Launch} {D : DT} {L : LT} {xs : Nat → Int32} {nn : Nat} {a1 : Int32} {I : IT} {K : UInt32 → IT → Prop} (hf : l.stackTraces = false)  (h : f_L_setCupPrice xs nn a1 I K) : ConLW l D nn xs m_L_setCupPrice [(0, 5, 6, 19)] 9 [.ref 0, .int a1] 1 6 I L (Pf L K) := by
  refine ConLW.of (by decide +kernel) (by simp [Value.category]) (Nat.le_of_ble_eq_true rfl) (fun X hX hT hN hS hB => ?_)
  have hX : OK X D cL_setCupPrice "TeaHouseLaw" 3 := hX
  have hT : RTL X l D (some .float) (P2 (Pf L K)) 9 1 6 := hT
  have hR := hT.1
  change J2 X D 3 0 0 I L 0 [.ref 0, .int a1, .retAddr 0] []
  rw [f_L_setCupPrice] at h
  refine q_aload_n hX dL_setCupPrice_0 rfl ?_
  refine q_iload_n hX dL_setCupPrice_1 rfl ?_
  refine q_W_f hX hR (w_X8_setCupPrice hf  h) lk_L_56 (rc2_of (ci := 9) rfl rfl) dL_setCupPrice_2 rfl rfl (Nat.le_of_ble_eq_true rfl) (by omega) (by omega) (by omega) ?_ ?_
  rotate_left
  · intro E I9_ h
    refine q_cs (k := "java/lang/IllegalArgumentException") (fun e0_ => ?_) (fun e0_ => ?_)
    · replace h := ite_t e0_ h
      subst e0_
      refine q_catchN hX hN hB 0 rfl rfl rfl (by decide +kernel) cl_L_19 ca_19 (by decide +kernel) dL_setCupPrice_6 (by decide) ?_
      refine q_ldcf hX kc_L_30 dL_setCupPrice_7 ?_
      exact q_fretL hX hT dL_setCupPrice_9 h (by omega) (by omega)
    replace h := ite_f e0_ h
    exact False.elim h
  intro x1 I2 h
  exact q_fretL hX hT dL_setCupPrice_5 h (by omega) (by omega)
set_option maxRecDepth 100000 in
set_option maxHeartbeats 4000000 in
theorem w_L_setSteamPrice {l : Launch} {D : DT} {L : LT} {xs : Nat → Int32} {nn : Nat} {a1 : Int32} {I : IT} {K : UInt32 → IT → Prop} (hf : l.stackTraces = false)  (h : f_L_setSteamPrice xs nn a1 I K) : ConLW l D nn xs m_L_setSteamPrice [(0, 5, 6, 19)] 9 [.ref 0, .int a1] 1 6 I L (Pf L K) := by
  refine ConLW.of (by decide +kernel) (by simp [Value.category]) (Nat.le_of_ble_eq_true rfl) (fun X hX hT hN hS hB => ?_)
  have hX : OK X D cL_setSteamPrice "TeaHouseLaw" 3 := hX
  have hT : RTL X l D (some .float) (P2 (Pf L K)) 9 1 6 := hT
  have hR := hT.1
  change J2 X D 3 0 0 I L 0 [.ref 0, .int a1, .retAddr 0] []
  rw [f_L_setSteamPrice] at h
  refine q_aload_n hX dL_setSteamPrice_0 rfl ?_
  refine q_iload_n hX dL_setSteamPrice_1 rfl ?_
  refine q_W_f hX hR (w_X8_setSteamPrice hf  h) lk_L_59 (rc2_of (ci := 9) rfl rfl) dL_setSteamPrice_2 rfl rfl (Nat.le_of_ble_eq_true rfl) (by omega) (by omega) (by omega) ?_ ?_
  rotate_left
  · intro E I9_ h
    refine q_cs (k := "java/lang/IllegalArgumentException") (fun e0_ => ?_) (fun e0_ => ?_)
    · replace h := ite_t e0_ h
      subst e0_
      refine q_catchN hX hN hB 0 rfl rfl rfl (by decide +kernel) cl_L_19 ca_19 (by decide +kernel) dL_setSteamPrice_6 (by decide) ?_
      refine q_ldcf hX kc_L_30 dL_setSteamPrice_7 ?_
      exact q_fretL hX hT dL_setSteamPrice_9 h (by omega) (by omega)
    replace h := ite_f e0_ h
    exact False.elim h
  intro x1 I2 h
  exact q_fretL hX hT dL_setSteamPrice_5 h (by omega) (by omega)
set_option maxRecDepth 100000 in
set_option maxHeartbeats 4000000 in
theorem w_L_pass {l : Launch} {D : DT} {L : LT} {xs : Nat → Int32} {nn : Nat} {a1 : Int32} {I : IT} {K : Int32 → IT → Prop} (hf : l.stackTraces = false)  (h : f_L_pass xs nn a1 I K) : ConLW l D nn xs m_L_pass [(0, 5, 6, 19)] 9 [.ref 0, .int a1] 1 6 I L (Pi L K) := by
  refine ConLW.of (by decide +kernel) (by simp [Value.category]) (Nat.le_of_ble_eq_true rfl) (fun X hX hT hN hS hB => ?_)
  have hX : OK X D cL_pass "TeaHouseLaw" 3 := hX
  have hT : RTL X l D (some .int) (P2 (Pi L K)) 9 1 6 := hT
  have hR := hT.1
  change J2 X D 3 0 0 I L 0 [.ref 0, .int a1, .retAddr 0] []
  rw [f_L_pass] at h
  refine q_aload_n hX dL_pass_0 rfl ?_
  refine q_iload_n hX dL_pass_1 rfl ?_
  refine q_W_i hX hR (w_X8_pass hf  h) lk_L_62 (rc2_of (ci := 9) rfl rfl) dL_pass_2 rfl rfl (Nat.le_of_ble_eq_true rfl) (by omega) (by omega) (by omega) ?_ ?_
  rotate_left
  · intro E I9_ h
    refine q_cs (k := "java/lang/IllegalArgumentException") (fun e0_ => ?_) (fun e0_ => ?_)
    · replace h := ite_t e0_ h
      subst e0_
      refine q_catchN hX hN hB 0 rfl rfl rfl (by decide +kernel) cl_L_19 ca_19 (by decide +kernel) dL_pass_6 (by decide) ?_
      refine q_sipush hX dL_pass_7 (v := (-20000)) (by decide) ?_
      exact q_iretL hX hT dL_pass_10 h (by omega) (by omega)
    replace h := ite_f e0_ h
    exact False.elim h
  intro x1 I2 h
  exact q_iretL hX hT dL_pass_5 h (by omega) (by omega)
set_option maxRecDepth 100000 in
set_option maxHeartbeats 4000000 in
theorem w_L_closeNight {l : Launch} {D : DT} {L : LT} {xs : Nat → Int32} {nn : Nat}  {I : IT} {K : UInt32 → IT → Prop} (hf : l.stackTraces = false)  (h : f_L_closeNight xs nn I K) : ConLW l D nn xs m_L_closeNight [(0, 4, 5, 21)] 9 [.ref 0] 1 6 I L (Pf L K) := by
  refine ConLW.of (by decide +kernel) (by simp [Value.category]) (Nat.le_of_ble_eq_true rfl) (fun X hX hT hN hS hB => ?_)
  have hX : OK X D cL_closeNight "TeaHouseLaw" 2 := hX
  have hT : RTL X l D (some .float) (P2 (Pf L K)) 9 1 6 := hT
  have hR := hT.1
  change J2 X D 2 0 0 I L 0 [.ref 0, .retAddr 0] []
  rw [f_L_closeNight] at h
  refine q_aload_n hX dL_closeNight_0 rfl ?_
  refine q_W_f hX hR (w_X8_closeNight hf  h) lk_L_65 (rc2_of (ci := 9) rfl rfl) dL_closeNight_1 rfl rfl (Nat.le_of_ble_eq_true rfl) (by omega) (by omega) (by omega) ?_ ?_
  rotate_left
  · intro E I9_ h
    refine q_cs (k := "java/lang/IllegalStateException") (fun e0_ => ?_) (fun e0_ => ?_)
    · replace h := ite_t e0_ h
      subst e0_
      refine q_catchN hX hN hB 0 rfl rfl rfl (by decide +kernel) cl_L_21 ca_21 (by decide +kernel) dL_closeNight_5 (by decide) ?_
      refine q_ldcf hX kc_L_31 dL_closeNight_6 ?_
      exact q_fretL hX hT dL_closeNight_8 h (by omega) (by omega)
    replace h := ite_f e0_ h
    exact False.elim h
  intro x1 I2 h
  exact q_fretL hX hT dL_closeNight_4 h (by omega) (by omega)
set_option maxRecDepth 100000 in
set_option maxHeartbeats 4000000 in
theorem w_L_minutesUntilBoiling {l : Launch} {D : DT} {L : LT} {xs : Nat → Int32} {nn : Nat} {a1 : Int32} {I : IT} {K : Int32 → IT → Prop} (hf : l.stackTraces = false)  (h : f_L_minutesUntilBoiling xs nn a1 I K) : ConLW l D nn xs m_L_minutesUntilBoiling [(0, 5, 6, 27), (0, 5, 11, 43)] 8 [.ref 0, .int a1] 2 12 I L (Pi L K) := by
  refine ConLW.of (by decide +kernel) (by simp [Value.category]) (Nat.le_of_ble_eq_true rfl) (fun X hX hT hN hS hB => ?_)
  have hX : OK X D cL_minutesUntilBoiling "TeaHouseLaw" 3 := hX
  have hT : RTL X l D (some .int) (P2 (Pi L K)) 8 2 12 := hT
  have hR := hT.1
  change J2 X D 3 0 0 I L 0 [.ref 0, .int a1, .retAddr 0] []
  rw [f_L_minutesUntilBoiling] at h
  refine q_aload_n hX dL_minutesUntilBoiling_0 rfl ?_
  refine q_iload_n hX dL_minutesUntilBoiling_1 rfl ?_
  refine q_W_ip hX hR (w_X8_minutesUntilBoiling hf  h) lk_L_69 (rc2_of (ci := 9) rfl rfl) dL_minutesUntilBoiling_2 rfl rfl (Nat.le_of_ble_eq_true rfl) (by omega) (by omega) (by omega) ?_ ?_
  rotate_left
  · intro E h
    refine q_cs (k := "java/lang/IndexOutOfBoundsException") (fun e0_ => ?_) (fun e0_ => ?_)
    · replace h := ite_t e0_ h
      subst e0_
      refine q_catchN hX hN hB 0 rfl rfl rfl (by decide +kernel) cl_L_27 ca_27 (by decide +kernel) dL_minutesUntilBoiling_6 (by decide) ?_
      refine q_sipush hX dL_minutesUntilBoiling_7 (v := (-25000)) (by decide) ?_
      exact q_iretL hX hT dL_minutesUntilBoiling_10 h (by omega) (by omega)
    replace h := ite_f e0_ h
    refine q_cs (k := "java/util/NoSuchElementException") (fun e1_ => ?_) (fun e1_ => ?_)
    · replace h := ite_t e1_ h
      subst e1_
      refine q_catchN hX hN hB 1 rfl rfl rfl (by decide +kernel) cl_L_43 ca_43 (by decide +kernel) dL_minutesUntilBoiling_11 (by decide) ?_
      refine q_sipush hX dL_minutesUntilBoiling_12 (v := (-30000)) (by decide) ?_
      exact q_iretL hX hT dL_minutesUntilBoiling_15 h (by omega) (by omega)
    replace h := ite_f e1_ h
    exact False.elim h
  intro x1 h
  exact q_iretL hX hT dL_minutesUntilBoiling_5 h (by omega) (by omega)
set_option maxRecDepth 100000 in
set_option maxHeartbeats 4000000 in
theorem w_L_minutesUntilBoilingByMinutes {l : Launch} {D : DT} {L : LT} {xs : Nat → Int32} {nn : Nat} {a1 : Int32} {I : IT} {K : Int32 → IT → Prop} (hf : l.stackTraces = false)  (h : f_L_minutesUntilBoilingByMinutes xs nn a1 I K) : ConLW l D nn xs m_L_minutesUntilBoilingByMinutes [(0, 5, 6, 27), (0, 5, 11, 43)] 8 [.ref 0, .int a1] 2 12 I L (Pi L K) := by
  refine ConLW.of (by decide +kernel) (by simp [Value.category]) (Nat.le_of_ble_eq_true rfl) (fun X hX hT hN hS hB => ?_)
  have hX : OK X D cL_minutesUntilBoilingByMinutes "TeaHouseLaw" 3 := hX
  have hT : RTL X l D (some .int) (P2 (Pi L K)) 8 2 12 := hT
  have hR := hT.1
  change J2 X D 3 0 0 I L 0 [.ref 0, .int a1, .retAddr 0] []
  rw [f_L_minutesUntilBoilingByMinutes] at h
  refine q_aload_n hX dL_minutesUntilBoilingByMinutes_0 rfl ?_
  refine q_iload_n hX dL_minutesUntilBoilingByMinutes_1 rfl ?_
  refine q_W_i hX hR (w_X8_minutesUntilBoilingByMinutes hf  h) lk_L_72 (rc2_of (ci := 9) rfl rfl) dL_minutesUntilBoilingByMinutes_2 rfl rfl (Nat.le_of_ble_eq_true rfl) (by omega) (by omega) (by omega) ?_ ?_
  rotate_left
  · intro E I9_ h
    refine q_cs (k := "java/lang/IndexOutOfBoundsException") (fun e0_ => ?_) (fun e0_ => ?_)
    · replace h := ite_t e0_ h
      subst e0_
      refine q_catchN hX hN hB 0 rfl rfl rfl (by decide +kernel) cl_L_27 ca_27 (by decide +kernel) dL_minutesUntilBoilingByMinutes_6 (by decide) ?_
      refine q_sipush hX dL_minutesUntilBoilingByMinutes_7 (v := (-25000)) (by decide) ?_
      exact q_iretL hX hT dL_minutesUntilBoilingByMinutes_10 h (by omega) (by omega)
    replace h := ite_f e0_ h
    refine q_cs (k := "java/util/NoSuchElementException") (fun e1_ => ?_) (fun e1_ => ?_)
    · replace h := ite_t e1_ h
      subst e1_
      refine q_catchN hX hN hB 1 rfl rfl rfl (by decide +kernel) cl_L_43 ca_43 (by decide +kernel) dL_minutesUntilBoilingByMinutes_11 (by decide) ?_
      refine q_sipush hX dL_minutesUntilBoilingByMinutes_12 (v := (-30000)) (by decide) ?_
      exact q_iretL hX hT dL_minutesUntilBoilingByMinutes_15 h (by omega) (by omega)
    replace h := ite_f e1_ h
    exact False.elim h
  intro x1 I2 h
  exact q_iretL hX hT dL_minutesUntilBoilingByMinutes_5 h (by omega) (by omega)
set_option maxRecDepth 100000 in
set_option maxHeartbeats 4000000 in
theorem w_L_kettleByTemperature {l : Launch} {D : DT} {L : LT} {xs : Nat → Int32} {nn : Nat} {a1 : Int32} {I : IT} {K : Int32 → IT → Prop} (hf : l.stackTraces = false)  (h : f_L_kettleByTemperature xs nn a1 I K) : ConLW l D nn xs m_L_kettleByTemperature [(0, 5, 6, 43)] 8 [.ref 0, .int a1] 1 6 I L (Pi L K) := by
  refine ConLW.of (by decide +kernel) (by simp [Value.category]) (Nat.le_of_ble_eq_true rfl) (fun X hX hT hN hS hB => ?_)
  have hX : OK X D cL_kettleByTemperature "TeaHouseLaw" 3 := hX
  have hT : RTL X l D (some .int) (P2 (Pi L K)) 8 1 6 := hT
  have hR := hT.1
  change J2 X D 3 0 0 I L 0 [.ref 0, .int a1, .retAddr 0] []
  rw [f_L_kettleByTemperature] at h
  refine q_aload_n hX dL_kettleByTemperature_0 rfl ?_
  refine q_iload_n hX dL_kettleByTemperature_1 rfl ?_
  refine q_W_ip hX hR (w_X8_kettleByTemperature hf  h) lk_L_75 (rc2_of (ci := 9) rfl rfl) dL_kettleByTemperature_2 rfl rfl (Nat.le_of_ble_eq_true rfl) (by omega) (by omega) (by omega) ?_ ?_
  rotate_left
  · intro E h
    refine q_cs (k := "java/util/NoSuchElementException") (fun e0_ => ?_) (fun e0_ => ?_)
    · replace h := ite_t e0_ h
      subst e0_
      refine q_catchN hX hN hB 0 rfl rfl rfl (by decide +kernel) cl_L_43 ca_43 (by decide +kernel) dL_kettleByTemperature_6 (by decide) ?_
      refine q_sipush hX dL_kettleByTemperature_7 (v := (-30000)) (by decide) ?_
      exact q_iretL hX hT dL_kettleByTemperature_10 h (by omega) (by omega)
    replace h := ite_f e0_ h
    exact False.elim h
  intro x1 h
  exact q_iretL hX hT dL_kettleByTemperature_5 h (by omega) (by omega)
set_option maxRecDepth 100000 in
set_option maxHeartbeats 4000000 in
theorem w_L_orderAt {l : Launch} {D : DT} {L : LT} {xs : Nat → Int32} {nn : Nat} {a1 : Int32} {I : IT} {K : Int32 → IT → Prop} (hf : l.stackTraces = false)  (h : f_L_orderAt xs nn a1 I K) : ConLW l D nn xs m_L_orderAt [(0, 5, 6, 43)] 8 [.ref 0, .int a1] 1 6 I L (Pi L K) := by
  refine ConLW.of (by decide +kernel) (by simp [Value.category]) (Nat.le_of_ble_eq_true rfl) (fun X hX hT hN hS hB => ?_)
  have hX : OK X D cL_orderAt "TeaHouseLaw" 3 := hX
  have hT : RTL X l D (some .int) (P2 (Pi L K)) 8 1 6 := hT
  have hR := hT.1
  change J2 X D 3 0 0 I L 0 [.ref 0, .int a1, .retAddr 0] []
  rw [f_L_orderAt] at h
  refine q_aload_n hX dL_orderAt_0 rfl ?_
  refine q_iload_n hX dL_orderAt_1 rfl ?_
  refine q_W_ip hX hR (w_X8_orderAt hf  h) lk_L_78 (rc2_of (ci := 9) rfl rfl) dL_orderAt_2 rfl rfl (Nat.le_of_ble_eq_true rfl) (by omega) (by omega) (by omega) ?_ ?_
  rotate_left
  · intro E h
    refine q_cs (k := "java/util/NoSuchElementException") (fun e0_ => ?_) (fun e0_ => ?_)
    · replace h := ite_t e0_ h
      subst e0_
      refine q_catchN hX hN hB 0 rfl rfl rfl (by decide +kernel) cl_L_43 ca_43 (by decide +kernel) dL_orderAt_6 (by decide) ?_
      refine q_sipush hX dL_orderAt_7 (v := (-30000)) (by decide) ?_
      exact q_iretL hX hT dL_orderAt_10 h (by omega) (by omega)
    replace h := ite_f e0_ h
    exact False.elim h
  intro x1 h
  exact q_iretL hX hT dL_orderAt_5 h (by omega) (by omega)
set_option maxRecDepth 100000 in
set_option maxHeartbeats 4000000 in
theorem w_L_kettleFor {l : Launch} {D : DT} {L : LT} {xs : Nat → Int32} {nn : Nat} {a1 : Int32} {I : IT} {K : Int32 → IT → Prop} (hf : l.stackTraces = false)  (h : f_L_kettleFor xs nn a1 I K) : ConLW l D nn xs m_L_kettleFor [(0, 5, 6, 43)] 8 [.ref 0, .int a1] 2 12 I L (Pi L K) := by
  refine ConLW.of (by decide +kernel) (by simp [Value.category]) (Nat.le_of_ble_eq_true rfl) (fun X hX hT hN hS hB => ?_)
  have hX : OK X D cL_kettleFor "TeaHouseLaw" 3 := hX
  have hT : RTL X l D (some .int) (P2 (Pi L K)) 8 2 12 := hT
  have hR := hT.1
  change J2 X D 3 0 0 I L 0 [.ref 0, .int a1, .retAddr 0] []
  rw [f_L_kettleFor] at h
  refine q_aload_n hX dL_kettleFor_0 rfl ?_
  refine q_iload_n hX dL_kettleFor_1 rfl ?_
  refine q_W_ip hX hR (w_X8_kettleFor hf  h) lk_L_81 (rc2_of (ci := 9) rfl rfl) dL_kettleFor_2 rfl rfl (Nat.le_of_ble_eq_true rfl) (by omega) (by omega) (by omega) ?_ ?_
  rotate_left
  · intro E h
    refine q_cs (k := "java/util/NoSuchElementException") (fun e0_ => ?_) (fun e0_ => ?_)
    · replace h := ite_t e0_ h
      subst e0_
      refine q_catchN hX hN hB 0 rfl rfl rfl (by decide +kernel) cl_L_43 ca_43 (by decide +kernel) dL_kettleFor_6 (by decide) ?_
      refine q_sipush hX dL_kettleFor_7 (v := (-30000)) (by decide) ?_
      exact q_iretL hX hT dL_kettleFor_10 h (by omega) (by omega)
    replace h := ite_f e0_ h
    exact False.elim h
  intro x1 h
  exact q_iretL hX hT dL_kettleFor_5 h (by omega) (by omega)
set_option maxRecDepth 100000 in
set_option maxHeartbeats 4000000 in
theorem w_L_nightByIncome {l : Launch} {D : DT} {L : LT} {xs : Nat → Int32} {nn : Nat} {a1 : Int32} {I : IT} {K : Int32 → IT → Prop} (hf : l.stackTraces = false)  (h : f_L_nightByIncome xs nn a1 I K) : ConLW l D nn xs m_L_nightByIncome [(0, 5, 6, 43)] 8 [.ref 0, .int a1] 1 6 I L (Pi L K) := by
  refine ConLW.of (by decide +kernel) (by simp [Value.category]) (Nat.le_of_ble_eq_true rfl) (fun X hX hT hN hS hB => ?_)
  have hX : OK X D cL_nightByIncome "TeaHouseLaw" 3 := hX
  have hT : RTL X l D (some .int) (P2 (Pi L K)) 8 1 6 := hT
  have hR := hT.1
  change J2 X D 3 0 0 I L 0 [.ref 0, .int a1, .retAddr 0] []
  rw [f_L_nightByIncome] at h
  refine q_aload_n hX dL_nightByIncome_0 rfl ?_
  refine q_iload_n hX dL_nightByIncome_1 rfl ?_
  refine q_W_ip hX hR (w_X8_nightByIncome hf  h) lk_L_84 (rc2_of (ci := 9) rfl rfl) dL_nightByIncome_2 rfl rfl (Nat.le_of_ble_eq_true rfl) (by omega) (by omega) (by omega) ?_ ?_
  rotate_left
  · intro E h
    refine q_cs (k := "java/util/NoSuchElementException") (fun e0_ => ?_) (fun e0_ => ?_)
    · replace h := ite_t e0_ h
      subst e0_
      refine q_catchN hX hN hB 0 rfl rfl rfl (by decide +kernel) cl_L_43 ca_43 (by decide +kernel) dL_nightByIncome_6 (by decide) ?_
      refine q_sipush hX dL_nightByIncome_7 (v := (-30000)) (by decide) ?_
      exact q_iretL hX hT dL_nightByIncome_10 h (by omega) (by omega)
    replace h := ite_f e0_ h
    exact False.elim h
  intro x1 h
  exact q_iretL hX hT dL_nightByIncome_5 h (by omega) (by omega)
set_option maxRecDepth 100000 in
set_option maxHeartbeats 4000000 in
theorem w_L_minutesUntilSuitable {l : Launch} {D : DT} {L : LT} {xs : Nat → Int32} {nn : Nat} {a1 : Int32} {I : IT} {K : Int32 → IT → Prop} (hf : l.stackTraces = false)  (h : f_L_minutesUntilSuitable xs nn a1 I K) : ConLW l D nn xs m_L_minutesUntilSuitable [(0, 5, 6, 43)] 8 [.ref 0, .int a1] 2 12 I L (Pi L K) := by
  refine ConLW.of (by decide +kernel) (by simp [Value.category]) (Nat.le_of_ble_eq_true rfl) (fun X hX hT hN hS hB => ?_)
  have hX : OK X D cL_minutesUntilSuitable "TeaHouseLaw" 3 := hX
  have hT : RTL X l D (some .int) (P2 (Pi L K)) 8 2 12 := hT
  have hR := hT.1
  change J2 X D 3 0 0 I L 0 [.ref 0, .int a1, .retAddr 0] []
  rw [f_L_minutesUntilSuitable] at h
  refine q_aload_n hX dL_minutesUntilSuitable_0 rfl ?_
  refine q_iload_n hX dL_minutesUntilSuitable_1 rfl ?_
  refine q_W_i hX hR (w_X8_minutesUntilSuitable hf  h) lk_L_87 (rc2_of (ci := 9) rfl rfl) dL_minutesUntilSuitable_2 rfl rfl (Nat.le_of_ble_eq_true rfl) (by omega) (by omega) (by omega) ?_ ?_
  rotate_left
  · intro E I9_ h
    refine q_cs (k := "java/util/NoSuchElementException") (fun e0_ => ?_) (fun e0_ => ?_)
    · replace h := ite_t e0_ h
      subst e0_
      refine q_catchN hX hN hB 0 rfl rfl rfl (by decide +kernel) cl_L_43 ca_43 (by decide +kernel) dL_minutesUntilSuitable_6 (by decide) ?_
      refine q_sipush hX dL_minutesUntilSuitable_7 (v := (-30000)) (by decide) ?_
      exact q_iretL hX hT dL_minutesUntilSuitable_10 h (by omega) (by omega)
    replace h := ite_f e0_ h
    exact False.elim h
  intro x1 I2 h
  exact q_iretL hX hT dL_minutesUntilSuitable_5 h (by omega) (by omega)
set_option maxRecDepth 100000 in
set_option maxHeartbeats 4000000 in
theorem w_L_greatestIncome {l : Launch} {D : DT} {L : LT} {xs : Nat → Int32} {nn : Nat} {a1 : Int32} {I : IT} {K : UInt32 → IT → Prop} (hf : l.stackTraces = false)  (h : f_L_greatestIncome xs nn a1 I K) : ConLW l D nn xs m_L_greatestIncome [(0, 5, 6, 19), (0, 5, 10, 43)] 8 [.ref 0, .int a1] 1 6 I L (Pf L K) := by
  refine ConLW.of (by decide +kernel) (by simp [Value.category]) (Nat.le_of_ble_eq_true rfl) (fun X hX hT hN hS hB => ?_)
  have hX : OK X D cL_greatestIncome "TeaHouseLaw" 3 := hX
  have hT : RTL X l D (some .float) (P2 (Pf L K)) 8 1 6 := hT
  have hR := hT.1
  change J2 X D 3 0 0 I L 0 [.ref 0, .int a1, .retAddr 0] []
  rw [f_L_greatestIncome] at h
  refine q_aload_n hX dL_greatestIncome_0 rfl ?_
  refine q_iload_n hX dL_greatestIncome_1 rfl ?_
  refine q_W_fp hX hR (w_X8_greatestIncome hf  h) lk_L_90 (rc2_of (ci := 9) rfl rfl) dL_greatestIncome_2 rfl rfl (Nat.le_of_ble_eq_true rfl) (by omega) (by omega) (by omega) ?_ ?_
  rotate_left
  · intro E h
    refine q_cs (k := "java/lang/IllegalArgumentException") (fun e0_ => ?_) (fun e0_ => ?_)
    · replace h := ite_t e0_ h
      subst e0_
      refine q_catchN hX hN hB 0 rfl rfl rfl (by decide +kernel) cl_L_19 ca_19 (by decide +kernel) dL_greatestIncome_6 (by decide) ?_
      refine q_ldcf hX kc_L_30 dL_greatestIncome_7 ?_
      exact q_fretL hX hT dL_greatestIncome_9 h (by omega) (by omega)
    replace h := ite_f e0_ h
    refine q_cs (k := "java/util/NoSuchElementException") (fun e1_ => ?_) (fun e1_ => ?_)
    · replace h := ite_t e1_ h
      subst e1_
      refine q_catchN hX hN hB 1 rfl rfl rfl (by decide +kernel) cl_L_43 ca_43 (by decide +kernel) dL_greatestIncome_10 (by decide) ?_
      refine q_ldcf hX kc_L_93 dL_greatestIncome_11 ?_
      exact q_fretL hX hT dL_greatestIncome_13 h (by omega) (by omega)
    replace h := ite_f e1_ h
    exact False.elim h
  intro x1 h
  exact q_fretL hX hT dL_greatestIncome_5 h (by omega) (by omega)
set_option maxRecDepth 100000 in
set_option maxHeartbeats 4000000 in
theorem w_L_greatestIncomeBySums {l : Launch} {D : DT} {L : LT} {xs : Nat → Int32} {nn : Nat} {a1 : Int32} {I : IT} {K : UInt32 → IT → Prop} (hf : l.stackTraces = false)  (h : f_L_greatestIncomeBySums xs nn a1 I K) : ConLW l D nn xs m_L_greatestIncomeBySums [(0, 5, 6, 19), (0, 5, 10, 43)] 8 [.ref 0, .int a1] 1 6 I L (Pf L K) := by
  refine ConLW.of (by decide +kernel) (by simp [Value.category]) (Nat.le_of_ble_eq_true rfl) (fun X hX hT hN hS hB => ?_)
  have hX : OK X D cL_greatestIncomeBySums "TeaHouseLaw" 3 := hX
  have hT : RTL X l D (some .float) (P2 (Pf L K)) 8 1 6 := hT
  have hR := hT.1
  change J2 X D 3 0 0 I L 0 [.ref 0, .int a1, .retAddr 0] []
  rw [f_L_greatestIncomeBySums] at h
  refine q_aload_n hX dL_greatestIncomeBySums_0 rfl ?_
  refine q_iload_n hX dL_greatestIncomeBySums_1 rfl ?_
  refine q_W_fp hX hR (w_X8_greatestIncomeBySums hf  h) lk_L_94 (rc2_of (ci := 9) rfl rfl) dL_greatestIncomeBySums_2 rfl rfl (Nat.le_of_ble_eq_true rfl) (by omega) (by omega) (by omega) ?_ ?_
  rotate_left
  · intro E h
    refine q_cs (k := "java/lang/IllegalArgumentException") (fun e0_ => ?_) (fun e0_ => ?_)
    · replace h := ite_t e0_ h
      subst e0_
      refine q_catchN hX hN hB 0 rfl rfl rfl (by decide +kernel) cl_L_19 ca_19 (by decide +kernel) dL_greatestIncomeBySums_6 (by decide) ?_
      refine q_ldcf hX kc_L_30 dL_greatestIncomeBySums_7 ?_
      exact q_fretL hX hT dL_greatestIncomeBySums_9 h (by omega) (by omega)
    replace h := ite_f e0_ h
    refine q_cs (k := "java/util/NoSuchElementException") (fun e1_ => ?_) (fun e1_ => ?_)
    · replace h := ite_t e1_ h
      subst e1_
      refine q_catchN hX hN hB 1 rfl rfl rfl (by decide +kernel) cl_L_43 ca_43 (by decide +kernel) dL_greatestIncomeBySums_10 (by decide) ?_
      refine q_ldcf hX kc_L_93 dL_greatestIncomeBySums_11 ?_
      exact q_fretL hX hT dL_greatestIncomeBySums_13 h (by omega) (by omega)
    replace h := ite_f e1_ h
    exact False.elim h
  intro x1 h
  exact q_fretL hX hT dL_greatestIncomeBySums_5 h (by omega) (by omega)
set_option maxRecDepth 100000 in
set_option maxHeartbeats 4000000 in
theorem w_L_acts_b147 {X : XT} {D : DT} {l : Launch} {L : LT} {xs : Nat → Int32} {nn : Nat} {a2 : Int32} {K : IT → Prop} (hf : l.stackTraces = false) (hX : OK X D cL_acts "TeaHouseLaw" 9) (hT : RT X l D none (P2 (Pv L K)) 10 2 12) (hN : NCX X) (hS : ScrX X D nn xs)   : ∀ {c w : Nat}, c + (1) ≤ 2 → w + (6) ≤ 12 → ∀ (v3 : Int32) (v4 : Int32) (I : IT), f_L_acts_b147 xs nn a2 K v3 v4 I → J2 X D 9 c w I L 147 [.ref 0, .retAddr 0, .retAddr 0, .int v3, .int v4, .retAddr 0, .retAddr 0, .retAddr 0, .retAddr 0] [] := by
  have hR := hT.room
  intro c w hc hw v3 v4 I h
  rw [f_L_acts_b147] at h
  refine q_aload_n hX dL_acts_147 rfl ?_
  refine q_iload hX dL_acts_148 rfl ?_
  refine q_iconst hX dL_acts_150 (v := (nI 1)) (by decide) ?_
  refine q_iload_n hX dL_acts_151 rfl ?_
  refine q_bipush hX dL_acts_152 (v := (nI 6)) (by decide) ?_
  refine q_irem hX dL_acts_154 (by decide) ?_
  refine q_iadd hX dL_acts_155 ?_
  refine q_SLw_f hX hR hN hS (w_L_fill hf  h) lk_LW_104 dL_acts_156 rfl rfl (Nat.le_of_ble_eq_true rfl) (by omega) (by omega) (by omega) ?_
  intro x1 I2 h
  refine q_fstore hX dL_acts_159 (by decide) (ls' := [_, _, _, _, _, _, _, _, _]) rfl ?_
  refine q_goto hX dL_acts_161 (tgt := 369) (by decide) ?_
  exact q_vret hX hT dL_acts_369 h (by omega) (by omega)
set_option maxRecDepth 100000 in
set_option maxHeartbeats 4000000 in
theorem w_L_acts_b164 {X : XT} {D : DT} {l : Launch} {L : LT} {xs : Nat → Int32} {nn : Nat} {a2 : Int32} {K : IT → Prop} (hf : l.stackTraces = false) (hX : OK X D cL_acts "TeaHouseLaw" 9) (hT : RT X l D none (P2 (Pv L K)) 10 2 12) (hN : NCX X) (hS : ScrX X D nn xs)   : ∀ {c w : Nat}, c + (1) ≤ 2 → w + (6) ≤ 12 → ∀ (v3 : Int32) (v4 : Int32) (I : IT), f_L_acts_b164 xs nn a2 K v3 v4 I → J2 X D 9 c w I L 164 [.ref 0, .retAddr 0, .retAddr 0, .int v3, .int v4, .retAddr 0, .retAddr 0, .retAddr 0, .retAddr 0] [] := by
  have hR := hT.room
  intro c w hc hw v3 v4 I h
  rw [f_L_acts_b164] at h
  refine q_aload_n hX dL_acts_164 rfl ?_
  refine q_iload hX dL_acts_165 rfl ?_
  refine q_iload_n hX dL_acts_167 rfl ?_
  refine q_bipush hX dL_acts_168 (v := (nI 6)) (by decide) ?_
  refine q_irem hX dL_acts_170 (by decide) ?_
  refine q_SLw_i hX hR hN hS (w_L_setBurner hf  h) lk_LW_107 dL_acts_171 rfl rfl (Nat.le_of_ble_eq_true rfl) (by omega) (by omega) (by omega) ?_
  intro x1 I2 h
  refine q_istore hX dL_acts_174 (by decide) (ls' := [_, _, _, _, _, _, _, _, _]) rfl ?_
  refine q_goto hX dL_acts_176 (tgt := 369) (by decide) ?_
  exact q_vret hX hT dL_acts_369 h (by omega) (by omega)
set_option maxRecDepth 100000 in
set_option maxHeartbeats 4000000 in
theorem w_L_acts_b179 {X : XT} {D : DT} {l : Launch} {L : LT} {xs : Nat → Int32} {nn : Nat} {a2 : Int32} {K : IT → Prop} (hf : l.stackTraces = false) (hX : OK X D cL_acts "TeaHouseLaw" 9) (hT : RT X l D none (P2 (Pv L K)) 10 2 12) (hN : NCX X) (hS : ScrX X D nn xs)   : ∀ {c w : Nat}, c + (1) ≤ 2 → w + (6) ≤ 12 → ∀ (v3 : Int32) (v5 : Int32) (I : IT), f_L_acts_b179 xs nn a2 K v3 v5 I → J2 X D 9 c w I L 179 [.ref 0, .retAddr 0, .retAddr 0, .int v3, .retAddr 0, .int v5, .retAddr 0, .retAddr 0, .retAddr 0] [] := by
  have hR := hT.room
  intro c w hc hw v3 v5 I h
  rw [f_L_acts_b179] at h
  refine q_iload hX dL_acts_179 rfl ?_
  refine q_bipush hX dL_acts_181 (v := (nI 9)) (by decide) ?_
  refine q_icmp_ge hX dL_acts_183 (tgt := 214) (by decide) (fun q1 => ?_) (fun q1 => ?_)
  · replace h := ite_t q1 h
    refine q_iconst hX dL_acts_214 (v := (nI 0)) (by decide) ?_
    refine q_istore hX dL_acts_215 (by decide) (ls' := [_, _, _, _, _, _, _, _, _]) rfl ?_
    refine q_goto hX dL_acts_217 (tgt := 369) (by decide) ?_
    exact q_vret hX hT dL_acts_369 h (by omega) (by omega)
  · replace h := ite_f q1 h
    refine q_aload_n hX dL_acts_186 rfl ?_
    refine q_iload_n hX dL_acts_187 rfl ?_
    refine q_bipush hX dL_acts_188 (v := (nI 10)) (by decide) ?_
    refine q_irem hX dL_acts_190 (by decide) ?_
    refine q_iconst hX dL_acts_191 (v := (nI 1)) (by decide) ?_
    refine q_iload_n hX dL_acts_192 rfl ?_
    refine q_iconst hX dL_acts_193 (v := (nI 4)) (by decide) ?_
    refine q_irem hX dL_acts_194 (by decide) ?_
    refine q_iadd hX dL_acts_195 ?_
    refine q_bipush hX dL_acts_196 (v := (nI 60)) (by decide) ?_
    refine q_iload_n hX dL_acts_198 rfl ?_
    refine q_bipush hX dL_acts_199 (v := (nI 41)) (by decide) ?_
    refine q_irem hX dL_acts_201 (by decide) ?_
    refine q_iadd hX dL_acts_202 ?_
    refine q_iconst hX dL_acts_203 (v := (nI 1)) (by decide) ?_
    refine q_iload_n hX dL_acts_204 rfl ?_
    refine q_iconst hX dL_acts_205 (v := (nI 3)) (by decide) ?_
    refine q_irem hX dL_acts_206 (by decide) ?_
    refine q_iadd hX dL_acts_207 ?_
    refine q_SLw_i hX hR hN hS (w_L_order hf  h) lk_LW_120 dL_acts_208 rfl rfl (Nat.le_of_ble_eq_true rfl) (by omega) (by omega) (by omega) ?_
    intro x2 I3 h
    refine q_goto hX dL_acts_211 (tgt := 215) (by decide) ?_
    refine q_istore hX dL_acts_215 (by decide) (ls' := [_, _, _, _, _, _, _, _, _]) rfl ?_
    refine q_goto hX dL_acts_217 (tgt := 369) (by decide) ?_
    exact q_vret hX hT dL_acts_369 h (by omega) (by omega)
set_option maxRecDepth 100000 in
set_option maxHeartbeats 4000000 in
theorem w_L_acts_b246 {X : XT} {D : DT} {l : Launch} {L : LT} {xs : Nat → Int32} {nn : Nat} {a2 : Int32} {K : IT → Prop} (hf : l.stackTraces = false) (hX : OK X D cL_acts "TeaHouseLaw" 9) (hT : RT X l D none (P2 (Pv L K)) 10 2 12) (hN : NCX X) (hS : ScrX X D nn xs)   : ∀ {c w : Nat}, c + (1) ≤ 2 → w + (6) ≤ 12 → ∀ (I : IT), f_L_acts_b246 xs nn a2 K I → J2 X D 9 c w I L 246 [.ref 0, .retAddr 0, .retAddr 0, .retAddr 0, .retAddr 0, .retAddr 0, .retAddr 0, .retAddr 0, .retAddr 0] [] := by
  have hR := hT.room
  intro c w hc hw I h
  rw [f_L_acts_b246] at h
  refine q_aload_n hX dL_acts_246 rfl ?_
  refine q_SLw_i hX hR hN hS (w_L_serveNext hf  h) lk_LW_125 dL_acts_247 rfl rfl (Nat.le_of_ble_eq_true rfl) (by omega) (by omega) (by omega) ?_
  intro x1 I2 h
  refine q_istore hX dL_acts_250 (by decide) (ls' := [_, _, _, _, _, _, _, _, _]) rfl ?_
  refine q_goto hX dL_acts_252 (tgt := 369) (by decide) ?_
  exact q_vret hX hT dL_acts_369 h (by omega) (by omega)
set_option maxRecDepth 100000 in
set_option maxHeartbeats 4000000 in
theorem w_L_acts_b330 {X : XT} {D : DT} {l : Launch} {L : LT} {xs : Nat → Int32} {nn : Nat} {a2 : Int32} {K : IT → Prop} (hf : l.stackTraces = false) (hX : OK X D cL_acts "TeaHouseLaw" 9) (hT : RT X l D none (P2 (Pv L K)) 10 2 12) (hN : NCX X) (hS : ScrX X D nn xs)   : ∀ {c w : Nat}, c + (1) ≤ 2 → w + (6) ≤ 12 → ∀ (s1 : Int32) (I : IT), isZ s1 → isC s1 → f_L_acts_b330 xs nn a2 K s1 I → J2 X D 9 c w I L 330 [.retAddr 0, .retAddr 0, .retAddr 0, .retAddr 0, .retAddr 0, .retAddr 0, .retAddr 0, .retAddr 0, .retAddr 0] [.int s1, .ref 0] := by
  have hR := hT.room
  intro c w hc hw s1 I hzs1 hcs1 h
  rw [f_L_acts_b330] at h
  refine q_W_z hX hR (w_X8_setAttendant hf hzs1 h) lk_L_137 (rc2_of (ci := 9) rfl rfl) dL_acts_330 rfl rfl (Nat.le_of_ble_eq_true rfl) (by omega) (by omega) (by omega) ?_ ?_
  rotate_left
  · intro E I9_ h
    exact False.elim h
  intro x1 I2 hrx1 h
  refine q_istore hX dL_acts_333 (by decide) (ls' := [_, _, _, _, _, _, _, _, _]) rfl ?_
  refine q_goto hX dL_acts_335 (tgt := 369) (by decide) ?_
  exact q_vret hX hT dL_acts_369 h (by omega) (by omega)
set_option maxRecDepth 100000 in
set_option maxHeartbeats 4000000 in
theorem w_L_acts {l : Launch} {D : DT} {L : LT} {xs : Nat → Int32} {nn : Nat} {a2 : Int32} {I : IT} {K : IT → Prop} (hf : l.stackTraces = false)  (h : f_L_acts xs nn a2 I K) : ConL l D nn xs m_L_acts 10 [.ref 0, .ref 1000300, .int a2] 2 12 I L (Pv L K) := by
  refine ConL.of (by decide +kernel) (by simp [Value.category]) (Nat.le_of_ble_eq_true rfl) (fun X hX hT hN hS => ?_)
  have hX : OK X D cL_acts "TeaHouseLaw" 9 := hX
  have hT : RT X l D none (P2 (Pv L K)) 10 2 12 := hT
  have hR := hT.room
  change J2 X D 9 0 0 I L 0 [.ref 0, .ref 1000300, .int a2, .retAddr 0, .retAddr 0, .retAddr 0, .retAddr 0, .retAddr 0, .retAddr 0] []
  rw [f_L_acts] at h
  refine q_aload_n hX dL_acts_0 rfl ?_
  refine q_iload_n hX dL_acts_1 rfl ?_
  refine q_iconst hX dL_acts_2 (v := (nI 1)) (by decide) ?_
  refine q_iadd hX dL_acts_3 ?_
  refine q_bipush hX dL_acts_4 (v := (nI 120)) (by decide) ?_
  refine q_SL_i hX hR hN hS (w_L_some hf  h) lk_L_97 dL_acts_6 rfl rfl (Nat.le_of_ble_eq_true rfl) (by omega) (by omega) (by omega) ?_
  intro x1 I2 h
  refine q_istore_n hX dL_acts_9 (by decide) (ls' := [_, _, _, _, _, _, _, _, _]) rfl ?_
  refine q_aload_n hX dL_acts_10 rfl ?_
  refine q_iload_n hX dL_acts_11 rfl ?_
  refine q_iconst hX dL_acts_12 (v := (nI 2)) (by decide) ?_
  refine q_iadd hX dL_acts_13 ?_
  refine q_aload_n hX dL_acts_14 rfl ?_
  refine q_V_ip hX hR (w_X8_kettleCount  h) lk_L_114 (rc2_of (ci := 9) rfl rfl) dL_acts_15 rfl rfl (Nat.le_of_ble_eq_true rfl) (by omega) (by omega) (by omega) ?_
  intro x3 h
  refine q_SL_i hX hR hN hS (w_L_some hf  h) lk_L_97 dL_acts_18 rfl rfl (Nat.le_of_ble_eq_true rfl) (by omega) (by omega) (by omega) ?_
  intro x4 I5 h
  refine q_istore hX dL_acts_21 (by decide) (ls' := [_, _, _, _, _, _, _, _, _]) rfl ?_
  refine q_aload_n hX dL_acts_23 rfl ?_
  refine q_V_ip hX hR (w_X8_waitingCount  h) lk_L_117 (rc2_of (ci := 9) rfl rfl) dL_acts_24 rfl rfl (Nat.le_of_ble_eq_true rfl) (by omega) (by omega) (by omega) ?_
  intro x6 h
  refine q_istore hX dL_acts_27 (by decide) (ls' := [_, _, _, _, _, _, _, _, _]) rfl ?_
  refine q_aload_n hX dL_acts_29 rfl ?_
  refine q_iload_n hX dL_acts_30 rfl ?_
  refine q_bipush hX dL_acts_31 (v := (nI 18)) (by decide) ?_
  refine q_SL_i hX hR hN hS (w_L_some hf  h) lk_L_97 dL_acts_33 rfl rfl (Nat.le_of_ble_eq_true rfl) (by omega) (by omega) (by omega) ?_
  intro x7 I8 h
  refine q_cas (k := (nI 0)) (fun q33 => ?_) (fun q33 => ?_)
  · replace h := ite_t q33 h
    refine q_tableInE hX dL_acts_36 q33 (by decide +kernel) (by decide +kernel) (off := 84) (by decide +kernel) (tgt := 120) (by decide) ?_
    refine q_aload_n hX dL_acts_120 rfl ?_
    refine q_V_ip hX hR (w_X8_kettleCount  h) lk_L_114 (rc2_of (ci := 9) rfl rfl) dL_acts_121 rfl rfl (Nat.le_of_ble_eq_true rfl) (by omega) (by omega) (by omega) ?_
    intro x9 h
    refine q_iconst hX dL_acts_124 (v := (nI 3)) (by decide) ?_
    refine q_icmp_ge hX dL_acts_125 (tgt := 141) (by decide) (fun q10 => ?_) (fun q10 => ?_)
    · replace h := ite_t q10 h
      refine q_iconst hX dL_acts_141 (v := (nI 0)) (by decide) ?_
      refine q_istore hX dL_acts_142 (by decide) (ls' := [_, _, _, _, _, _, _, _, _]) rfl ?_
      refine q_goto hX dL_acts_144 (tgt := 369) (by decide) ?_
      exact q_vret hX hT dL_acts_369 h (by omega) (by omega)
    · replace h := ite_f q10 h
      refine q_aload_n hX dL_acts_128 rfl ?_
      refine q_iconst hX dL_acts_129 (v := (nI 2)) (by decide) ?_
      refine q_iload_n hX dL_acts_130 rfl ?_
      refine q_bipush hX dL_acts_131 (v := (nI 15)) (by decide) ?_
      refine q_irem hX dL_acts_133 (by decide) ?_
      refine q_iadd hX dL_acts_134 ?_
      refine q_SLw_i hX hR hN hS (w_L_addKettle hf  h) lk_LW_101 dL_acts_135 rfl rfl (Nat.le_of_ble_eq_true rfl) (by omega) (by omega) (by omega) ?_
      intro x11 I12 h
      refine q_goto hX dL_acts_138 (tgt := 142) (by decide) ?_
      refine q_istore hX dL_acts_142 (by decide) (ls' := [_, _, _, _, _, _, _, _, _]) rfl ?_
      refine q_goto hX dL_acts_144 (tgt := 369) (by decide) ?_
      exact q_vret hX hT dL_acts_369 h (by omega) (by omega)
  replace h := ite_f q33 h
  refine q_cas (k := (nI 1)) (fun q34 => ?_) (fun q34 => ?_)
  · replace h := ite_t q34 h
    refine q_tableInE hX dL_acts_36 q34 (by decide +kernel) (by decide +kernel) (off := 111) (by decide +kernel) (tgt := 147) (by decide) ?_
    exact q_dr (w_L_acts_b147 hf hX hT hN hS     (by omega) (by omega) _ _ _  h) ⟨Or.inl rfl, Or.inr rfl, Or.inr rfl, Or.inl rfl, Or.inl rfl, Or.inr rfl, Or.inl rfl, Or.inl rfl, Or.inl rfl, trivial⟩
  replace h := ite_f q34 h
  refine q_cas (k := (nI 2)) (fun q35 => ?_) (fun q35 => ?_)
  · replace h := ite_t q35 h
    refine q_tableInE hX dL_acts_36 q35 (by decide +kernel) (by decide +kernel) (off := 111) (by decide +kernel) (tgt := 147) (by decide) ?_
    exact q_dr (w_L_acts_b147 hf hX hT hN hS     (by omega) (by omega) _ _ _  h) ⟨Or.inl rfl, Or.inr rfl, Or.inr rfl, Or.inl rfl, Or.inl rfl, Or.inr rfl, Or.inl rfl, Or.inl rfl, Or.inl rfl, trivial⟩
  replace h := ite_f q35 h
  refine q_cas (k := (nI 3)) (fun q36 => ?_) (fun q36 => ?_)
  · replace h := ite_t q36 h
    refine q_tableInE hX dL_acts_36 q36 (by decide +kernel) (by decide +kernel) (off := 128) (by decide +kernel) (tgt := 164) (by decide) ?_
    exact q_dr (w_L_acts_b164 hf hX hT hN hS     (by omega) (by omega) _ _ _  h) ⟨Or.inl rfl, Or.inr rfl, Or.inr rfl, Or.inl rfl, Or.inl rfl, Or.inr rfl, Or.inl rfl, Or.inl rfl, Or.inl rfl, trivial⟩
  replace h := ite_f q36 h
  refine q_cas (k := (nI 4)) (fun q37 => ?_) (fun q37 => ?_)
  · replace h := ite_t q37 h
    refine q_tableInE hX dL_acts_36 q37 (by decide +kernel) (by decide +kernel) (off := 128) (by decide +kernel) (tgt := 164) (by decide) ?_
    exact q_dr (w_L_acts_b164 hf hX hT hN hS     (by omega) (by omega) _ _ _  h) ⟨Or.inl rfl, Or.inr rfl, Or.inr rfl, Or.inl rfl, Or.inl rfl, Or.inr rfl, Or.inl rfl, Or.inl rfl, Or.inl rfl, trivial⟩
  replace h := ite_f q37 h
  refine q_cas (k := (nI 5)) (fun q38 => ?_) (fun q38 => ?_)
  · replace h := ite_t q38 h
    refine q_tableInE hX dL_acts_36 q38 (by decide +kernel) (by decide +kernel) (off := 143) (by decide +kernel) (tgt := 179) (by decide) ?_
    exact q_dr (w_L_acts_b179 hf hX hT hN hS     (by omega) (by omega) _ _ _  h) ⟨Or.inl rfl, Or.inr rfl, Or.inr rfl, Or.inl rfl, Or.inr rfl, Or.inl rfl, Or.inl rfl, Or.inl rfl, Or.inl rfl, trivial⟩
  replace h := ite_f q38 h
  refine q_cas (k := (nI 6)) (fun q39 => ?_) (fun q39 => ?_)
  · replace h := ite_t q39 h
    refine q_tableInE hX dL_acts_36 q39 (by decide +kernel) (by decide +kernel) (off := 143) (by decide +kernel) (tgt := 179) (by decide) ?_
    exact q_dr (w_L_acts_b179 hf hX hT hN hS     (by omega) (by omega) _ _ _  h) ⟨Or.inl rfl, Or.inr rfl, Or.inr rfl, Or.inl rfl, Or.inr rfl, Or.inl rfl, Or.inl rfl, Or.inl rfl, Or.inl rfl, trivial⟩
  replace h := ite_f q39 h
  refine q_cas (k := (nI 7)) (fun q40 => ?_) (fun q40 => ?_)
  · replace h := ite_t q40 h
    refine q_tableInE hX dL_acts_36 q40 (by decide +kernel) (by decide +kernel) (off := 143) (by decide +kernel) (tgt := 179) (by decide) ?_
    exact q_dr (w_L_acts_b179 hf hX hT hN hS     (by omega) (by omega) _ _ _  h) ⟨Or.inl rfl, Or.inr rfl, Or.inr rfl, Or.inl rfl, Or.inr rfl, Or.inl rfl, Or.inl rfl, Or.inl rfl, Or.inl rfl, trivial⟩
  replace h := ite_f q40 h
  refine q_cas (k := (nI 8)) (fun q41 => ?_) (fun q41 => ?_)
  · replace h := ite_t q41 h
    refine q_tableInE hX dL_acts_36 q41 (by decide +kernel) (by decide +kernel) (off := 184) (by decide +kernel) (tgt := 220) (by decide) ?_
    refine q_iload hX dL_acts_220 rfl ?_
    refine q_if_le hX dL_acts_222 (tgt := 240) (by decide) (fun q13 => ?_) (fun q13 => ?_)
    · replace h := ite_t q13 h
      refine q_iconst hX dL_acts_240 (v := (nI 0)) (by decide) ?_
      refine q_istore hX dL_acts_241 (by decide) (ls' := [_, _, _, _, _, _, _, _, _]) rfl ?_
      refine q_goto hX dL_acts_243 (tgt := 369) (by decide) ?_
      exact q_vret hX hT dL_acts_369 h (by omega) (by omega)
    · replace h := ite_f q13 h
      refine q_aload_n hX dL_acts_225 rfl ?_
      refine q_aload_n hX dL_acts_226 rfl ?_
      refine q_iload_n hX dL_acts_227 rfl ?_
      refine q_iload hX dL_acts_228 rfl ?_
      obtain ⟨z14, h⟩ := h
      refine q_irem hX dL_acts_230 z14 ?_
      refine q_W_ip hX hR (w_X8_orderAt hf  h) lk_L_78 (rc2_of (ci := 9) rfl rfl) dL_acts_231 rfl rfl (Nat.le_of_ble_eq_true rfl) (by omega) (by omega) (by omega) ?_ ?_
      rotate_left
      · intro E h
        exact False.elim h
      intro x15 h
      refine q_SLw_i hX hR hN hS (w_L_cancel hf  h) lk_LW_123 dL_acts_234 rfl rfl (Nat.le_of_ble_eq_true rfl) (by omega) (by omega) (by omega) ?_
      intro x16 I17 h
      refine q_goto hX dL_acts_237 (tgt := 241) (by decide) ?_
      refine q_istore hX dL_acts_241 (by decide) (ls' := [_, _, _, _, _, _, _, _, _]) rfl ?_
      refine q_goto hX dL_acts_243 (tgt := 369) (by decide) ?_
      exact q_vret hX hT dL_acts_369 h (by omega) (by omega)
  replace h := ite_f q41 h
  refine q_cas (k := (nI 9)) (fun q42 => ?_) (fun q42 => ?_)
  · replace h := ite_t q42 h
    refine q_tableInE hX dL_acts_36 q42 (by decide +kernel) (by decide +kernel) (off := 210) (by decide +kernel) (tgt := 246) (by decide) ?_
    exact q_dr (w_L_acts_b246 hf hX hT hN hS     (by omega) (by omega) _  h) ⟨Or.inl rfl, Or.inr rfl, Or.inr rfl, Or.inr rfl, Or.inr rfl, Or.inr rfl, Or.inl rfl, Or.inl rfl, Or.inl rfl, trivial⟩
  replace h := ite_f q42 h
  refine q_cas (k := (nI 10)) (fun q43 => ?_) (fun q43 => ?_)
  · replace h := ite_t q43 h
    refine q_tableInE hX dL_acts_36 q43 (by decide +kernel) (by decide +kernel) (off := 210) (by decide +kernel) (tgt := 246) (by decide) ?_
    exact q_dr (w_L_acts_b246 hf hX hT hN hS     (by omega) (by omega) _  h) ⟨Or.inl rfl, Or.inr rfl, Or.inr rfl, Or.inr rfl, Or.inr rfl, Or.inr rfl, Or.inl rfl, Or.inl rfl, Or.inl rfl, trivial⟩
  replace h := ite_f q43 h
  refine q_cas (k := (nI 11)) (fun q44 => ?_) (fun q44 => ?_)
  · replace h := ite_t q44 h
    refine q_tableInE hX dL_acts_36 q44 (by decide +kernel) (by decide +kernel) (off := 210) (by decide +kernel) (tgt := 246) (by decide) ?_
    exact q_dr (w_L_acts_b246 hf hX hT hN hS     (by omega) (by omega) _  h) ⟨Or.inl rfl, Or.inr rfl, Or.inr rfl, Or.inr rfl, Or.inr rfl, Or.inr rfl, Or.inl rfl, Or.inl rfl, Or.inl rfl, trivial⟩
  replace h := ite_f q44 h
  refine q_cas (k := (nI 12)) (fun q45 => ?_) (fun q45 => ?_)
  · replace h := ite_t q45 h
    refine q_tableInE hX dL_acts_36 q45 (by decide +kernel) (by decide +kernel) (off := 219) (by decide +kernel) (tgt := 255) (by decide) ?_
    refine q_aload_n hX dL_acts_255 rfl ?_
    refine q_iconst hX dL_acts_256 (v := (nI 1)) (by decide) ?_
    refine q_iload_n hX dL_acts_257 rfl ?_
    refine q_iconst hX dL_acts_258 (v := (nI 5)) (by decide) ?_
    refine q_irem hX dL_acts_259 (by decide) ?_
    refine q_iadd hX dL_acts_260 ?_
    refine q_SLw_i hX hR hN hS (w_L_wash hf  h) lk_LW_128 dL_acts_261 rfl rfl (Nat.le_of_ble_eq_true rfl) (by omega) (by omega) (by omega) ?_
    intro x18 I19 h
    refine q_istore hX dL_acts_264 (by decide) (ls' := [_, _, _, _, _, _, _, _, _]) rfl ?_
    refine q_goto hX dL_acts_266 (tgt := 369) (by decide) ?_
    exact q_vret hX hT dL_acts_369 h (by omega) (by omega)
  replace h := ite_f q45 h
  refine q_cas (k := (nI 13)) (fun q46 => ?_) (fun q46 => ?_)
  · replace h := ite_t q46 h
    refine q_tableInE hX dL_acts_36 q46 (by decide +kernel) (by decide +kernel) (off := 233) (by decide +kernel) (tgt := 269) (by decide) ?_
    refine q_aload_n hX dL_acts_269 rfl ?_
    refine q_iconst hX dL_acts_270 (v := (nI 1)) (by decide) ?_
    refine q_iload_n hX dL_acts_271 rfl ?_
    refine q_bipush hX dL_acts_272 (v := (nI 9)) (by decide) ?_
    refine q_irem hX dL_acts_274 (by decide) ?_
    refine q_iadd hX dL_acts_275 ?_
    refine q_SLw_f hX hR hN hS (w_L_sellSteam hf  h) lk_LW_130 dL_acts_276 rfl rfl (Nat.le_of_ble_eq_true rfl) (by omega) (by omega) (by omega) ?_
    intro x20 I21 h
    refine q_fstore hX dL_acts_279 (by decide) (ls' := [_, _, _, _, _, _, _, _, _]) rfl ?_
    refine q_goto hX dL_acts_281 (tgt := 369) (by decide) ?_
    exact q_vret hX hT dL_acts_369 h (by omega) (by omega)
  replace h := ite_f q46 h
  refine q_cas (k := (nI 14)) (fun q47 => ?_) (fun q47 => ?_)
  · replace h := ite_t q47 h
    refine q_tableInE hX dL_acts_36 q47 (by decide +kernel) (by decide +kernel) (off := 248) (by decide +kernel) (tgt := 284) (by decide) ?_
    refine q_iload_n hX dL_acts_284 rfl ?_
    refine q_iconst hX dL_acts_285 (v := (nI 2)) (by decide) ?_
    refine q_irem hX dL_acts_286 (by decide) ?_
    refine q_if_ne hX dL_acts_287 (tgt := 303) (by decide) (fun q22 => ?_) (fun q22 => ?_)
    · replace h := ite_f q22 h
      refine q_aload_n hX dL_acts_303 rfl ?_
      refine q_iconst hX dL_acts_304 (v := (nI 1)) (by decide) ?_
      refine q_iload_n hX dL_acts_305 rfl ?_
      refine q_bipush hX dL_acts_306 (v := (nI 80)) (by decide) ?_
      refine q_irem hX dL_acts_308 (by decide) ?_
      refine q_iadd hX dL_acts_309 ?_
      refine q_SLw_f hX hR hN hS (w_L_setSteamPrice hf  h) lk_LW_135 dL_acts_310 rfl rfl (Nat.le_of_ble_eq_true rfl) (by omega) (by omega) (by omega) ?_
      intro x25 I26 h
      refine q_fstore hX dL_acts_313 (by decide) (ls' := [_, _, _, _, _, _, _, _, _]) rfl ?_
      refine q_goto hX dL_acts_315 (tgt := 369) (by decide) ?_
      exact q_vret hX hT dL_acts_369 h (by omega) (by omega)
    · replace h := ite_t q22 h
      refine q_aload_n hX dL_acts_290 rfl ?_
      refine q_iconst hX dL_acts_291 (v := (nI 1)) (by decide) ?_
      refine q_iload_n hX dL_acts_292 rfl ?_
      refine q_bipush hX dL_acts_293 (v := (nI 80)) (by decide) ?_
      refine q_irem hX dL_acts_295 (by decide) ?_
      refine q_iadd hX dL_acts_296 ?_
      refine q_SLw_f hX hR hN hS (w_L_setCupPrice hf  h) lk_LW_133 dL_acts_297 rfl rfl (Nat.le_of_ble_eq_true rfl) (by omega) (by omega) (by omega) ?_
      intro x23 I24 h
      refine q_goto hX dL_acts_300 (tgt := 313) (by decide) ?_
      refine q_fstore hX dL_acts_313 (by decide) (ls' := [_, _, _, _, _, _, _, _, _]) rfl ?_
      refine q_goto hX dL_acts_315 (tgt := 369) (by decide) ?_
      exact q_vret hX hT dL_acts_369 h (by omega) (by omega)
  replace h := ite_f q47 h
  refine q_cas (k := (nI 15)) (fun q48 => ?_) (fun q48 => ?_)
  · replace h := ite_t q48 h
    refine q_tableInE hX dL_acts_36 q48 (by decide +kernel) (by decide +kernel) (off := 282) (by decide +kernel) (tgt := 318) (by decide) ?_
    refine q_aload_n hX dL_acts_318 rfl ?_
    refine q_iload_n hX dL_acts_319 rfl ?_
    refine q_iconst hX dL_acts_320 (v := (nI 2)) (by decide) ?_
    refine q_irem hX dL_acts_321 (by decide) ?_
    refine q_if_ne hX dL_acts_322 (tgt := 329) (by decide) (fun q27 => ?_) (fun q27 => ?_)
    · replace h := ite_f q27 h
      refine q_iconst hX dL_acts_329 (v := (nI 0)) (by decide) ?_
      exact q_dr (w_L_acts_b330 hf hX hT hN hS     (by omega) (by omega) _ _ (Or.inl rfl) (isC_n (by decide)) h) ⟨Or.inr rfl, Or.inr rfl, Or.inr rfl, Or.inr rfl, Or.inr rfl, Or.inr rfl, Or.inl rfl, Or.inl rfl, Or.inl rfl, trivial⟩
    · replace h := ite_t q27 h
      refine q_iconst hX dL_acts_325 (v := (nI 1)) (by decide) ?_
      refine q_goto hX dL_acts_326 (tgt := 330) (by decide) ?_
      exact q_dr (w_L_acts_b330 hf hX hT hN hS     (by omega) (by omega) _ _ (Or.inr rfl) (isC_n (by decide)) h) ⟨Or.inr rfl, Or.inr rfl, Or.inr rfl, Or.inr rfl, Or.inr rfl, Or.inr rfl, Or.inl rfl, Or.inl rfl, Or.inl rfl, trivial⟩
  replace h := ite_f q48 h
  refine q_cas (k := (nI 16)) (fun q49 => ?_) (fun q49 => ?_)
  · replace h := ite_t q49 h
    refine q_tableInE hX dL_acts_36 q49 (by decide +kernel) (by decide +kernel) (off := 302) (by decide +kernel) (tgt := 338) (by decide) ?_
    refine q_iload_n hX dL_acts_338 rfl ?_
    refine q_iconst hX dL_acts_339 (v := (nI 4)) (by decide) ?_
    refine q_irem hX dL_acts_340 (by decide) ?_
    refine q_if_ne hX dL_acts_341 (tgt := 351) (by decide) (fun q28 => ?_) (fun q28 => ?_)
    · replace h := ite_f q28 h
      refine q_fconst0 hX dL_acts_351 ?_
      refine q_fstore hX dL_acts_352 (by decide) (ls' := [_, _, _, _, _, _, _, _, _]) rfl ?_
      refine q_goto hX dL_acts_354 (tgt := 369) (by decide) ?_
      exact q_vret hX hT dL_acts_369 h (by omega) (by omega)
    · replace h := ite_t q28 h
      refine q_aload_n hX dL_acts_344 rfl ?_
      refine q_SLw_f hX hR hN hS (w_L_closeNight hf  h) lk_LW_141 dL_acts_345 rfl rfl (Nat.le_of_ble_eq_true rfl) (by omega) (by omega) (by omega) ?_
      intro x29 I30 h
      refine q_goto hX dL_acts_348 (tgt := 352) (by decide) ?_
      refine q_fstore hX dL_acts_352 (by decide) (ls' := [_, _, _, _, _, _, _, _, _]) rfl ?_
      refine q_goto hX dL_acts_354 (tgt := 369) (by decide) ?_
      exact q_vret hX hT dL_acts_369 h (by omega) (by omega)
  replace h := ite_f q49 h
  refine q_tableOut hX dL_acts_36 (by have w0 := swn q33 (by decide); have w1 := swn q34 (by decide); have w2 := swn q35 (by decide); have w3 := swn q36 (by decide); have w4 := swn q37 (by decide); have w5 := swn q38 (by decide); have w6 := swn q39 (by decide); have w7 := swn q40 (by decide); have w8 := swn q41 (by decide); have w9 := swn q42 (by decide); have w10 := swn q43 (by decide); have w11 := swn q44 (by decide); have w12 := swn q45 (by decide); have w13 := swn q46 (by decide); have w14 := swn q47 (by decide); have w15 := swn q48 (by decide); have w16 := swn q49 (by decide); omega) (tgt := 357) (by decide) ?_
  refine q_aload_n hX dL_acts_357 rfl ?_
  refine q_iconst hX dL_acts_358 (v := (nI 1)) (by decide) ?_
  refine q_iload_n hX dL_acts_359 rfl ?_
  refine q_bipush hX dL_acts_360 (v := (nI 25)) (by decide) ?_
  refine q_irem hX dL_acts_362 (by decide) ?_
  refine q_iadd hX dL_acts_363 ?_
  refine q_SLw_i hX hR hN hS (w_L_pass hf  h) lk_LW_144 dL_acts_364 rfl rfl (Nat.le_of_ble_eq_true rfl) (by omega) (by omega) (by omega) ?_
  intro x31 I32 h
  refine q_istore hX dL_acts_367 (by decide) (ls' := [_, _, _, _, _, _, _, _, _]) rfl ?_
  exact q_vret hX hT dL_acts_369 h (by omega) (by omega)
set_option maxRecDepth 100000 in
set_option maxHeartbeats 4000000 in
theorem w_L_build_b2 {X : XT} {D : DT} {l : Launch} {L : LT} {xs : Nat → Int32} {nn : Nat}  {K : IT → Prop} {X30 : Int32 → IT → Prop} (hf : l.stackTraces = false) (hX : OK X D cL_build "TeaHouseLaw" 5) (hT : RT X l D none (P2 (Pv L K)) 11 88 528) (hN : NCX X) (hS : ScrX X D nn xs)  {r30 s30 : Nat} (hx30 : ∀ {c w : Nat}, c + r30 ≤ 88 → w + s30 ≤ 528 → ∀ (v3 : Int32) (I : IT), X30 v3 I → J2 X D 5 c w I L 30 [.ref 0, .ref 1000300, .retAddr 0, .int v3, .retAddr 0] []) : ∀ (n : Nat), ∀ {c w : Nat}, c + (n * 1 + 0 + r30) ≤ 88 → w + (n * 6 + 0 + s30) ≤ 528 → ∀ (v3 : Int32) (I : IT), f_L_build_b2 xs nn X30 K n v3 I → J2 X D 5 c w I L 2 [.ref 0, .ref 1000300, .retAddr 0, .int v3, .retAddr 0] [] := by
  have hR := hT.room
  intro n
  induction n with
  | zero => intro c w hc hw v3 I h; exact False.elim h
  | succ n ih =>
    intro c w hc hw v3 I h
    rw [f_L_build_b2] at h
    refine q_iload_n hX dL_build_2 rfl ?_
    refine q_iconst hX dL_build_3 (v := (nI 3)) (by decide) ?_
    refine q_icmp_ge hX dL_build_4 (tgt := 28) (by decide) (fun q1 => ?_) (fun q1 => ?_)
    · replace h := ite_t q1 h
      refine q_iconst hX dL_build_28 (v := (nI 0)) (by decide) ?_
      refine q_istore_n hX dL_build_29 (by decide) (ls' := [_, _, _, _, _]) rfl ?_
      exact q_dr (hx30 (by omega) (by omega) _ _  h) ⟨Or.inl rfl, Or.inl rfl, Or.inl rfl, Or.inl rfl, Or.inl rfl, trivial⟩
    · replace h := ite_f q1 h
      refine q_aload_n hX dL_build_7 rfl ?_
      refine q_bipush hX dL_build_8 (v := (nI 6)) (by decide) ?_
      refine q_aload_n hX dL_build_10 rfl ?_
      refine q_iload_n hX dL_build_11 rfl ?_
      refine q_bipush hX dL_build_12 (v := (nI 11)) (by decide) ?_
      refine q_SL_i hX hR hN hS (w_L_some hf  h) lk_L_97 dL_build_14 rfl rfl (Nat.le_of_ble_eq_true rfl) (by omega) (by omega) (by omega) ?_
      intro x2 I3 h
      refine q_iadd hX dL_build_17 ?_
      refine q_SLw_i hX hR hN hS (w_L_addKettle hf  h) lk_LW_101 dL_build_18 rfl rfl (Nat.le_of_ble_eq_true rfl) (by omega) (by omega) (by omega) ?_
      intro x4 I5 h
      refine q_istore_n hX dL_build_21 (by decide) (ls' := [_, _, _, _, _]) rfl ?_
      replace h := bnd_e h
      refine q_iinc hX dL_build_22 (by decide) rfl (v := _ + nI 1) (ls' := [_, _, _, _, _]) rfl rfl ?_
      refine q_goto hX dL_build_25 (tgt := 2) (by decide) ?_
      exact q_dr (ih (by omega) (by omega) _ _  h) ⟨Or.inl rfl, Or.inl rfl, Or.inr rfl, Or.inl rfl, Or.inl rfl, trivial⟩
set_option maxRecDepth 100000 in
set_option maxHeartbeats 4000000 in
theorem w_L_build_b30 {X : XT} {D : DT} {l : Launch} {L : LT} {xs : Nat → Int32} {nn : Nat}  {K : IT → Prop} {X76 : Int32 → IT → Prop} (hf : l.stackTraces = false) (hX : OK X D cL_build "TeaHouseLaw" 5) (hT : RT X l D none (P2 (Pv L K)) 11 88 528) (hN : NCX X) (hS : ScrX X D nn xs)  {r76 s76 : Nat} (hx76 : ∀ {c w : Nat}, c + r76 ≤ 88 → w + s76 ≤ 528 → ∀ (v3 : Int32) (I : IT), X76 v3 I → J2 X D 5 c w I L 76 [.ref 0, .ref 1000300, .retAddr 0, .int v3, .retAddr 0] []) : ∀ (n : Nat), ∀ {c w : Nat}, c + (n * 2 + 0 + r76) ≤ 88 → w + (n * 12 + 0 + s76) ≤ 528 → ∀ (v3 : Int32) (I : IT), f_L_build_b30 xs nn X76 K n v3 I → J2 X D 5 c w I L 30 [.ref 0, .ref 1000300, .retAddr 0, .int v3, .retAddr 0] [] := by
  have hR := hT.room
  intro n
  induction n with
  | zero => intro c w hc hw v3 I h; exact False.elim h
  | succ n ih =>
    intro c w hc hw v3 I h
    rw [f_L_build_b30] at h
    refine q_iload_n hX dL_build_30 rfl ?_
    refine q_iconst hX dL_build_31 (v := (nI 3)) (by decide) ?_
    refine q_icmp_ge hX dL_build_32 (tgt := 74) (by decide) (fun q1 => ?_) (fun q1 => ?_)
    · replace h := ite_t q1 h
      refine q_iconst hX dL_build_74 (v := (nI 0)) (by decide) ?_
      refine q_istore_n hX dL_build_75 (by decide) (ls' := [_, _, _, _, _]) rfl ?_
      exact q_dr (hx76 (by omega) (by omega) _ _  h) ⟨Or.inl rfl, Or.inl rfl, Or.inl rfl, Or.inl rfl, Or.inl rfl, trivial⟩
    · replace h := ite_f q1 h
      refine q_aload_n hX dL_build_35 rfl ?_
      refine q_iload_n hX dL_build_36 rfl ?_
      refine q_iconst hX dL_build_37 (v := (nI 2)) (by decide) ?_
      refine q_aload_n hX dL_build_38 rfl ?_
      refine q_iconst hX dL_build_39 (v := (nI 4)) (by decide) ?_
      refine q_iload_n hX dL_build_40 rfl ?_
      refine q_iadd hX dL_build_41 ?_
      refine q_iconst hX dL_build_42 (v := (nI 5)) (by decide) ?_
      refine q_SL_i hX hR hN hS (w_L_some hf  h) lk_L_97 dL_build_43 rfl rfl (Nat.le_of_ble_eq_true rfl) (by omega) (by omega) (by omega) ?_
      intro x2 I3 h
      refine q_iadd hX dL_build_46 ?_
      refine q_SLw_f hX hR hN hS (w_L_fill hf  h) lk_LW_104 dL_build_47 rfl rfl (Nat.le_of_ble_eq_true rfl) (by omega) (by omega) (by omega) ?_
      intro x4 I5 h
      refine q_fstore hX dL_build_50 (by decide) (ls' := [_, _, _, _, _]) rfl ?_
      refine q_aload_n hX dL_build_52 rfl ?_
      refine q_iload_n hX dL_build_53 rfl ?_
      refine q_aload_n hX dL_build_54 rfl ?_
      refine q_bipush hX dL_build_55 (v := (nI 8)) (by decide) ?_
      refine q_iload_n hX dL_build_57 rfl ?_
      refine q_iadd hX dL_build_58 ?_
      refine q_bipush hX dL_build_59 (v := (nI 6)) (by decide) ?_
      refine q_SL_i hX hR hN hS (w_L_some hf  h) lk_L_97 dL_build_61 rfl rfl (Nat.le_of_ble_eq_true rfl) (by omega) (by omega) (by omega) ?_
      intro x6 I7 h
      refine q_SLw_i hX hR hN hS (w_L_setBurner hf  h) lk_LW_107 dL_build_64 rfl rfl (Nat.le_of_ble_eq_true rfl) (by omega) (by omega) (by omega) ?_
      intro x8 I9 h
      refine q_istore_n hX dL_build_67 (by decide) (ls' := [_, _, _, _, _]) rfl ?_
      replace h := bnd_e h
      refine q_iinc hX dL_build_68 (by decide) rfl (v := _ + nI 1) (ls' := [_, _, _, _, _]) rfl rfl ?_
      refine q_goto hX dL_build_71 (tgt := 30) (by decide) ?_
      exact q_dr (ih (by omega) (by omega) _ _  h) ⟨Or.inl rfl, Or.inl rfl, Or.inr rfl, Or.inl rfl, Or.inr rfl, trivial⟩
set_option maxRecDepth 100000 in
set_option maxHeartbeats 4000000 in
theorem w_L_build_b76 {X : XT} {D : DT} {l : Launch} {L : LT} {xs : Nat → Int32} {nn : Nat}  {K : IT → Prop} (hf : l.stackTraces = false) (hX : OK X D cL_build "TeaHouseLaw" 5) (hT : RT X l D none (P2 (Pv L K)) 11 88 528) (hN : NCX X) (hS : ScrX X D nn xs)   : ∀ (n : Nat), ∀ {c w : Nat}, c + (n * 2 + 0) ≤ 88 → w + (n * 12 + 0) ≤ 528 → ∀ (v3 : Int32) (I : IT), f_L_build_b76 xs nn K n v3 I → J2 X D 5 c w I L 76 [.ref 0, .ref 1000300, .retAddr 0, .int v3, .retAddr 0] [] := by
  have hR := hT.room
  intro n
  induction n with
  | zero => intro c w hc hw v3 I h; exact False.elim h
  | succ n ih =>
    intro c w hc hw v3 I h
    rw [f_L_build_b76] at h
    refine q_iload_n hX dL_build_76 rfl ?_
    refine q_bipush hX dL_build_77 (v := (nI 20)) (by decide) ?_
    refine q_icmp_ge hX dL_build_79 (tgt := 99) (by decide) (fun q1 => ?_) (fun q1 => ?_)
    · replace h := ite_t q1 h
      exact q_vret hX hT dL_build_99 h (by omega) (by omega)
    · replace h := ite_f q1 h
      refine q_aload_n hX dL_build_82 rfl ?_
      refine q_aload_n hX dL_build_83 rfl ?_
      refine q_bipush hX dL_build_84 (v := (nI 12)) (by decide) ?_
      refine q_iconst hX dL_build_86 (v := (nI 4)) (by decide) ?_
      refine q_iload_n hX dL_build_87 rfl ?_
      refine q_imul hX dL_build_88 ?_
      refine q_iadd hX dL_build_89 ?_
      refine q_SL_v hX hR hN hS (w_L_acts hf  h) lk_L_110 dL_build_90 rfl rfl (Nat.le_of_ble_eq_true rfl) (by omega) (by omega) (by omega) ?_
      intro I2 h
      replace h := bnd_e h
      refine q_iinc hX dL_build_93 (by decide) rfl (v := _ + nI 1) (ls' := [_, _, _, _, _]) rfl rfl ?_
      refine q_goto hX dL_build_96 (tgt := 76) (by decide) ?_
      exact q_dr (ih (by omega) (by omega) _ _  h) ⟨Or.inl rfl, Or.inl rfl, Or.inl rfl, Or.inl rfl, Or.inl rfl, trivial⟩
set_option maxRecDepth 100000 in
set_option maxHeartbeats 4000000 in
theorem w_L_build {l : Launch} {D : DT} {L : LT} {xs : Nat → Int32} {nn : Nat}  {I : IT} {K : IT → Prop} (hf : l.stackTraces = false)  (h : f_L_build xs nn I K) : ConL l D nn xs m_L_build 11 [.ref 0, .ref 1000300] 88 528 I L (Pv L K) := by
  refine ConL.of (by decide +kernel) (by simp [Value.category]) (Nat.le_of_ble_eq_true rfl) (fun X hX hT hN hS => ?_)
  have hX : OK X D cL_build "TeaHouseLaw" 5 := hX
  have hT : RT X l D none (P2 (Pv L K)) 11 88 528 := hT
  have hR := hT.room
  change J2 X D 5 0 0 I L 0 [.ref 0, .ref 1000300, .retAddr 0, .retAddr 0, .retAddr 0] []
  rw [f_L_build] at h
  refine q_iconst hX dL_build_0 (v := (nI 0)) (by decide) ?_
  refine q_istore_n hX dL_build_1 (by decide) (ls' := [_, _, _, _, _]) rfl ?_
  exact q_dr (w_L_build_b2 hf hX hT hN hS  (r30 := (8 * 2 + 0 + (32 * 2 + 0))) (s30 := (8 * 12 + 0 + (32 * 12 + 0))) (fun {_ _} hc_ hw_ _ _ h => w_L_build_b30 hf hX hT hN hS  (r76 := (32 * 2 + 0)) (s76 := (32 * 12 + 0)) (fun {_ _} hc_ hw_ _ _ h => w_L_build_b76 hf hX hT hN hS    _  (by omega) (by omega) _ _  h) _  (by omega) (by omega) _ _  h) _  (by omega) (by omega) _ _  h) ⟨Or.inl rfl, Or.inl rfl, Or.inl rfl, Or.inl rfl, Or.inl rfl, trivial⟩
set_option maxRecDepth 100000 in
set_option maxHeartbeats 4000000 in
theorem w_L_eighths {l : Launch} {D : DT} {L : LT} {xs : Nat → Int32} {nn : Nat} {a0 : UInt32} {I : IT} {K : Int32 → IT → Prop} (hf : l.stackTraces = false)  (h : f_L_eighths xs nn a0 I K) : ConL l D nn xs m_L_eighths 1 [.float a0] 0 0 I L (Pi L K) := by
  refine ConL.of (by decide +kernel) (by simp [Value.category]) (Nat.le_of_ble_eq_true rfl) (fun X hX hT hN hS => ?_)
  have hX : OK X D cL_eighths "TeaHouseLaw" 1 := hX
  have hT : RT X l D (some .int) (P2 (Pi L K)) 1 0 0 := hT
  have hR := hT.room
  change J2 X D 1 0 0 I L 0 [.float a0] []
  rw [f_L_eighths] at h
  refine q_ldcf hX kc_L_146 dL_eighths_0 ?_
  refine q_fload_n hX dL_eighths_2 rfl ?_
  obtain ⟨z1, h⟩ := h
  refine q_fmul hX dL_eighths_3 z1 ?_
  refine q_f2i hX dL_eighths_4 ?_
  exact q_iret hX hT dL_eighths_5 h
set_option maxRecDepth 100000 in
set_option maxHeartbeats 4000000 in
theorem w_L_least_b11 {X : XT} {D : DT} {l : Launch} {L : LT} {xs : Nat → Int32} {nn : Nat} {a1 : Int32} {K : Int32 → IT → Prop} {X30 : Int32 → Int32 → Int32 → IT → Prop} (hf : l.stackTraces = false) (hX : OK X D cL_least "TeaHouseLaw" 5) (hT : RT X l D (some .int) (P2 (Pi L K)) 11 611 6806) (hN : NCX X) (hS : ScrX X D nn xs)  {r30 s30 : Nat} (hx30 : ∀ {c w : Nat}, c + r30 ≤ 611 → w + s30 ≤ 6806 → ∀ (v2 : Int32) (v3 : Int32) (v4 : Int32) (I : IT), X30 v2 v3 v4 I → J2 X D 5 c w I L 30 [.ref 0, .retAddr 0, .int v2, .int v3, .int v4] []) : ∀ (n : Nat), ∀ {c w : Nat}, c + (n * 1 + 0 + r30) ≤ 611 → w + (n * 6 + 0 + s30) ≤ 6806 → ∀ (v2 : Int32) (v3 : Int32) (I : IT), f_L_least_b11 xs nn a1 X30 K n v2 v3 I → J2 X D 5 c w I L 11 [.ref 0, .retAddr 0, .int v2, .int v3, .int (nI 0)] [] := by
  have hR := hT.room
  intro n
  induction n with
  | zero => intro c w hc hw v2 v3 I h; exact False.elim h
  | succ n ih =>
    intro c w hc hw v2 v3 I h
    rw [f_L_least_b11] at h
    refine q_aload_n hX dL_least_11 rfl ?_
    refine q_iload_n hX dL_least_12 rfl ?_
    refine q_W_cp hX hR (w_X8_lineChar hf  h) lk_L_150 (rc2_of (ci := 9) rfl rfl) dL_least_13 rfl rfl (Nat.le_of_ble_eq_true rfl) (by omega) (by omega) (by omega) ?_ ?_
    rotate_left
    · intro E h
      exact False.elim h
    intro x1 hrx1 h
    refine q_bipush hX dL_least_16 (v := (nI 120)) (by decide) ?_
    refine q_icmp_eq hX dL_least_18 (tgt := 27) (by decide) (fun q2 => ?_) (fun q2 => ?_)
    · replace h := ite_t q2 h
      replace h := bnd_e h
      refine q_iinc hX dL_least_27 (by decide) rfl (v := _ + nI 1) (ls' := [_, _, _, _, _]) rfl rfl ?_
      exact q_dr (hx30 (by omega) (by omega) _ _ _ _  h) ⟨Or.inl rfl, Or.inl rfl, Or.inl rfl, Or.inl rfl, Or.inl rfl, trivial⟩
    · replace h := ite_f q2 h
      replace h := bnd_e h
      refine q_iinc hX dL_least_21 (by decide) rfl (v := _ + nI 1) (ls' := [_, _, _, _, _]) rfl rfl ?_
      refine q_goto hX dL_least_24 (tgt := 11) (by decide) ?_
      exact q_dr (ih (by omega) (by omega) _ _ _  h) ⟨Or.inl rfl, Or.inl rfl, Or.inl rfl, Or.inl rfl, Or.inl rfl, trivial⟩
set_option maxRecDepth 100000 in
set_option maxHeartbeats 4000000 in
theorem w_L_least_b30 {X : XT} {D : DT} {l : Launch} {L : LT} {xs : Nat → Int32} {nn : Nat} {a1 : Int32} {K : Int32 → IT → Prop} (hf : l.stackTraces = false) (hX : OK X D cL_least "TeaHouseLaw" 5) (hT : RT X l D (some .int) (P2 (Pi L K)) 11 611 6806) (hN : NCX X) (hS : ScrX X D nn xs)   : ∀ (n : Nat), ∀ {c w : Nat}, c + (n * 2 + 0) ≤ 611 → w + (n * 12 + 0) ≤ 6806 → ∀ (v2 : Int32) (v3 : Int32) (v4 : Int32) (I : IT), f_L_least_b30 xs nn a1 K n v2 v3 v4 I → J2 X D 5 c w I L 30 [.ref 0, .retAddr 0, .int v2, .int v3, .int v4] [] := by
  have hR := hT.room
  intro n
  induction n with
  | zero => intro c w hc hw v2 v3 v4 I h; exact False.elim h
  | succ n ih =>
    intro c w hc hw v2 v3 v4 I h
    rw [f_L_least_b30] at h
    refine q_aload_n hX dL_least_30 rfl ?_
    refine q_iload_n hX dL_least_31 rfl ?_
    refine q_W_cp hX hR (w_X8_lineChar hf  h) lk_L_150 (rc2_of (ci := 9) rfl rfl) dL_least_32 rfl rfl (Nat.le_of_ble_eq_true rfl) (by omega) (by omega) (by omega) ?_ ?_
    rotate_left
    · intro E h
      exact False.elim h
    intro x1 hrx1 h
    refine q_bipush hX dL_least_35 (v := (nI 32)) (by decide) ?_
    refine q_icmp_eq hX dL_least_37 (tgt := 62) (by decide) (fun q2 => ?_) (fun q2 => ?_)
    · replace h := ite_t q2 h
      refine q_iload_n hX dL_least_62 rfl ?_
      refine q_iload_n hX dL_least_63 rfl ?_
      refine q_icmp_le hX dL_least_64 (tgt := 72) (by decide) (fun q3 => ?_) (fun q3 => ?_)
      · replace h := ite_t q3 h
        refine q_sipush hX dL_least_72 (v := (-30000)) (by decide) ?_
        exact q_iret hX hT dL_least_75 h (by omega) (by omega)
      · replace h := ite_f q3 h
        refine q_iload hX dL_least_67 rfl ?_
        refine q_goto hX dL_least_69 (tgt := 75) (by decide) ?_
        exact q_iret hX hT dL_least_75 h (by omega) (by omega)
    · replace h := ite_f q2 h
      refine q_bipush hX dL_least_40 (v := (nI 10)) (by decide) ?_
      refine q_iload hX dL_least_42 rfl ?_
      refine q_imul hX dL_least_44 ?_
      refine q_aload_n hX dL_least_45 rfl ?_
      refine q_iload_n hX dL_least_46 rfl ?_
      refine q_W_cp hX hR (w_X8_lineChar hf  h) lk_L_150 (rc2_of (ci := 9) rfl rfl) dL_least_47 rfl rfl (Nat.le_of_ble_eq_true rfl) (by omega) (by omega) (by omega) ?_ ?_
      rotate_left
      · intro E h
        exact False.elim h
      intro x4 hrx4 h
      refine q_iadd hX dL_least_50 ?_
      refine q_bipush hX dL_least_51 (v := (nI 48)) (by decide) ?_
      refine q_isub hX dL_least_53 ?_
      replace h := bnd_e h
      refine q_istore hX dL_least_54 (by decide) (ls' := [_, _, _, _, _]) rfl ?_
      replace h := bnd_e h
      refine q_iinc hX dL_least_56 (by decide) rfl (v := _ + nI 1) (ls' := [_, _, _, _, _]) rfl rfl ?_
      refine q_goto hX dL_least_59 (tgt := 30) (by decide) ?_
      exact q_dr (ih (by omega) (by omega) _ _ _ _  h) ⟨Or.inl rfl, Or.inl rfl, Or.inl rfl, Or.inl rfl, Or.inl rfl, trivial⟩
set_option maxRecDepth 100000 in
set_option maxHeartbeats 4000000 in
theorem w_L_least {l : Launch} {D : DT} {L : LT} {xs : Nat → Int32} {nn : Nat} {a1 : Int32} {I : IT} {K : Int32 → IT → Prop} (hf : l.stackTraces = false)  (h : f_L_least xs nn a1 I K) : ConL l D nn xs m_L_least 11 [.ref 0, .int a1] 611 6806 I L (Pi L K) := by
  refine ConL.of (by decide +kernel) (by simp [Value.category]) (Nat.le_of_ble_eq_true rfl) (fun X hX hT hN hS => ?_)
  have hX : OK X D cL_least "TeaHouseLaw" 5 := hX
  have hT : RT X l D (some .int) (P2 (Pi L K)) 11 611 6806 := hT
  have hR := hT.room
  change J2 X D 5 0 0 I L 0 [.ref 0, .int a1, .retAddr 0, .retAddr 0, .retAddr 0] []
  rw [f_L_least] at h
  refine q_aload_n hX dL_least_0 rfl ?_
  refine q_iload_n hX dL_least_1 rfl ?_
  refine q_W_i hX hR (w_X8_formatOrder hf  h) lk_L_147 (rc2_of (ci := 9) rfl rfl) dL_least_2 rfl rfl (Nat.le_of_ble_eq_true rfl) (by omega) (by omega) (by omega) ?_ ?_
  rotate_left
  · intro E I9_ h
    exact False.elim h
  intro x1 I2 h
  refine q_istore_n hX dL_least_5 (by decide) (ls' := [_, _, _, _, _]) rfl ?_
  refine q_iconst hX dL_least_6 (v := (nI 0)) (by decide) ?_
  refine q_istore_n hX dL_least_7 (by decide) (ls' := [_, _, _, _, _]) rfl ?_
  refine q_iconst hX dL_least_8 (v := (nI 0)) (by decide) ?_
  refine q_istore hX dL_least_9 (by decide) (ls' := [_, _, _, _, _]) rfl ?_
  exact q_dr (w_L_least_b11 hf hX hT hN hS  (r30 := (200 * 2 + 0)) (s30 := (200 * 12 + 0)) (fun {_ _} hc_ hw_ _ _ _ _ h => w_L_least_b30 hf hX hT hN hS    _  (by omega) (by omega) _ _ _ _  h) _  (by omega) (by omega) _ _ _  h) ⟨Or.inl rfl, Or.inr rfl, Or.inl rfl, Or.inl rfl, Or.inl rfl, trivial⟩
set_option maxRecDepth 100000 in
set_option maxHeartbeats 4000000 in
theorem w_L_pours_b68 {X : XT} {D : DT} {l : Launch} {L : LT} {xs : Nat → Int32} {nn : Nat} {a1 : Int32} {a2 : Int32} {K : Int32 → IT → Prop} {X7 : Int32 → Int32 → IT → Prop} (hf : l.stackTraces = false) (hX : OK X D cL_pours "TeaHouseLaw" 5) (hT : RT X l D (some .int) (P2 (Pi L K)) 8 32 192) (hN : NCX X) (hS : ScrX X D nn xs)  {r7 s7 : Nat} (hx7 : ∀ {c w : Nat}, c + r7 ≤ 32 → w + s7 ≤ 192 → ∀ (v3 : Int32) (v4 : Int32) (I : IT), X7 v3 v4 I → J2 X D 5 c w I L 7 [.ref 0, .int a1, .int a2, .int v3, .int v4] []) : ∀ {c w : Nat}, c + (0 + r7) ≤ 32 → w + (0 + s7) ≤ 192 → ∀ (v4 : Int32) (I : IT), f_L_pours_b68 xs nn a1 a2 X7 K v4 I → J2 X D 5 c w I L 68 [.ref 0, .int a1, .int a2, .retAddr 0, .int v4] [] := by
  have hR := hT.room
  intro c w hc hw v4 I h
  rw [f_L_pours_b68] at h
  refine q_iload hX dL_pours_68 rfl ?_
  refine q_goto hX dL_pours_70 (tgt := 74) (by decide) ?_
  refine q_istore_n hX dL_pours_74 (by decide) (ls' := [_, _, _, _, _]) rfl ?_
  replace h := bnd_e h
  refine q_iinc hX dL_pours_75 (by decide) rfl (v := _ + nI 1) (ls' := [_, _, _, _, _]) rfl rfl ?_
  refine q_goto hX dL_pours_78 (tgt := 7) (by decide) ?_
  exact q_dr (hx7 (by omega) (by omega) _ _ _  h) ⟨Or.inl rfl, Or.inl rfl, Or.inl rfl, Or.inl rfl, Or.inl rfl, trivial⟩
set_option maxRecDepth 100000 in
set_option maxHeartbeats 4000000 in
theorem w_L_pours_b7 {X : XT} {D : DT} {l : Launch} {L : LT} {xs : Nat → Int32} {nn : Nat} {a1 : Int32} {a2 : Int32} {K : Int32 → IT → Prop} (hf : l.stackTraces = false) (hX : OK X D cL_pours "TeaHouseLaw" 5) (hT : RT X l D (some .int) (P2 (Pi L K)) 8 32 192) (hN : NCX X) (hS : ScrX X D nn xs)   : ∀ (n : Nat), ∀ {c w : Nat}, c + (n * 4 + 0) ≤ 32 → w + (n * 24 + 0) ≤ 192 → ∀ (v3 : Int32) (v4 : Int32) (I : IT), f_L_pours_b7 xs nn a1 a2 K n v3 v4 I → J2 X D 5 c w I L 7 [.ref 0, .int a1, .int a2, .int v3, .int v4] [] := by
  have hR := hT.room
  intro n
  induction n with
  | zero => intro c w hc hw v3 v4 I h; exact False.elim h
  | succ n ih =>
    intro c w hc hw v3 v4 I h
    rw [f_L_pours_b7] at h
    refine q_iload hX dL_pours_7 rfl ?_
    refine q_aload_n hX dL_pours_9 rfl ?_
    refine q_V_ip hX hR (w_X8_kettleCount  h) lk_L_114 (rc2_of (ci := 9) rfl rfl) dL_pours_10 rfl rfl (Nat.le_of_ble_eq_true rfl) (by omega) (by omega) (by omega) ?_
    intro x1 h
    refine q_icmp_ge hX dL_pours_13 (tgt := 81) (by decide) (fun q2 => ?_) (fun q2 => ?_)
    · replace h := ite_t q2 h
      refine q_iload_n hX dL_pours_81 rfl ?_
      exact q_iret hX hT dL_pours_82 h (by omega) (by omega)
    · replace h := ite_f q2 h
      refine q_aload_n hX dL_pours_16 rfl ?_
      refine q_iload hX dL_pours_17 rfl ?_
      refine q_W_fp hX hR (w_X8_volume hf  h) lk_L_154 (rc2_of (ci := 9) rfl rfl) dL_pours_19 rfl rfl (Nat.le_of_ble_eq_true rfl) (by omega) (by omega) (by omega) ?_ ?_
      rotate_left
      · intro E h
        exact False.elim h
      intro x3 h
      refine q_ldcf hX kc_L_157 dL_pours_22 ?_
      refine q_iload_n hX dL_pours_24 rfl ?_
      refine q_i2f hX dL_pours_25 ?_
      obtain ⟨z4, h⟩ := h
      refine q_fmul hX dL_pours_26 z4 ?_
      refine q_fcmp hX dL_pours_27 ?_
      refine q_if_lt hX dL_pours_28 (tgt := 75) (by decide) (fun q5 => ?_) (fun q5 => ?_)
      · replace h := ite_t q5 h
        replace h := bnd_e h
        refine q_iinc hX dL_pours_75 (by decide) rfl (v := _ + nI 1) (ls' := [_, _, _, _, _]) rfl rfl ?_
        refine q_goto hX dL_pours_78 (tgt := 7) (by decide) ?_
        exact q_dr (ih (by omega) (by omega) _ _ _  h) ⟨Or.inl rfl, Or.inl rfl, Or.inl rfl, Or.inl rfl, Or.inl rfl, trivial⟩
      · replace h := ite_f q5 h
        refine q_aload_n hX dL_pours_31 rfl ?_
        refine q_iload hX dL_pours_32 rfl ?_
        refine q_W_fp hX hR (w_X8_temperature hf  h) lk_L_158 (rc2_of (ci := 9) rfl rfl) dL_pours_34 rfl rfl (Nat.le_of_ble_eq_true rfl) (by omega) (by omega) (by omega) ?_ ?_
        rotate_left
        · intro E h
          exact False.elim h
        intro x7 h
        refine q_iload_n hX dL_pours_37 rfl ?_
        refine q_i2f hX dL_pours_38 ?_
        refine q_fcmp hX dL_pours_39 ?_
        refine q_if_ge hX dL_pours_40 (tgt := 46) (by decide) (fun q8 => ?_) (fun q8 => ?_)
        · replace h := ite_t q8 h
          refine q_iload_n hX dL_pours_46 rfl ?_
          refine q_sipush hX dL_pours_47 (v := (-30000)) (by decide) ?_
          refine q_icmp_eq hX dL_pours_50 (tgt := 68) (by decide) (fun q9 => ?_) (fun q9 => ?_)
          · replace h := ite_t q9 h
            exact q_dr (w_L_pours_b68 hf hX hT hN hS  (r7 := (n * 4 + 0)) (s7 := (n * 24 + 0)) (fun {_ _} hc_ hw_ _ _ _ h => ih (by omega) (by omega) _ _ _  h)  (by omega) (by omega) _ _  h) ⟨Or.inl rfl, Or.inl rfl, Or.inl rfl, Or.inr rfl, Or.inl rfl, trivial⟩
          · replace h := ite_f q9 h
            refine q_aload_n hX dL_pours_53 rfl ?_
            refine q_iload hX dL_pours_54 rfl ?_
            refine q_W_fp hX hR (w_X8_temperature hf  h) lk_L_158 (rc2_of (ci := 9) rfl rfl) dL_pours_56 rfl rfl (Nat.le_of_ble_eq_true rfl) (by omega) (by omega) (by omega) ?_ ?_
            rotate_left
            · intro E h
              exact False.elim h
            intro x10 h
            refine q_aload_n hX dL_pours_59 rfl ?_
            refine q_iload_n hX dL_pours_60 rfl ?_
            refine q_W_fp hX hR (w_X8_temperature hf  h) lk_L_158 (rc2_of (ci := 9) rfl rfl) dL_pours_61 rfl rfl (Nat.le_of_ble_eq_true rfl) (by omega) (by omega) (by omega) ?_ ?_
            rotate_left
            · intro E h
              exact False.elim h
            intro x11 h
            refine q_fcmp hX dL_pours_64 ?_
            refine q_if_le hX dL_pours_65 (tgt := 73) (by decide) (fun q12 => ?_) (fun q12 => ?_)
            · replace h := ite_t q12 h
              refine q_iload_n hX dL_pours_73 rfl ?_
              refine q_istore_n hX dL_pours_74 (by decide) (ls' := [_, _, _, _, _]) rfl ?_
              replace h := bnd_e h
              refine q_iinc hX dL_pours_75 (by decide) rfl (v := _ + nI 1) (ls' := [_, _, _, _, _]) rfl rfl ?_
              refine q_goto hX dL_pours_78 (tgt := 7) (by decide) ?_
              exact q_dr (ih (by omega) (by omega) _ _ _  h) ⟨Or.inl rfl, Or.inl rfl, Or.inl rfl, Or.inl rfl, Or.inl rfl, trivial⟩
            · replace h := ite_f q12 h
              exact q_dr (w_L_pours_b68 hf hX hT hN hS  (r7 := (n * 4 + 0)) (s7 := (n * 24 + 0)) (fun {_ _} hc_ hw_ _ _ _ h => ih (by omega) (by omega) _ _ _  h)  (by omega) (by omega) _ _  h) ⟨Or.inl rfl, Or.inl rfl, Or.inl rfl, Or.inr rfl, Or.inl rfl, trivial⟩
        · replace h := ite_f q8 h
          refine q_goto hX dL_pours_43 (tgt := 75) (by decide) ?_
          replace h := bnd_e h
          refine q_iinc hX dL_pours_75 (by decide) rfl (v := _ + nI 1) (ls' := [_, _, _, _, _]) rfl rfl ?_
          refine q_goto hX dL_pours_78 (tgt := 7) (by decide) ?_
          exact q_dr (ih (by omega) (by omega) _ _ _  h) ⟨Or.inl rfl, Or.inl rfl, Or.inl rfl, Or.inl rfl, Or.inl rfl, trivial⟩
set_option maxRecDepth 100000 in
set_option maxHeartbeats 4000000 in
theorem w_L_pours {l : Launch} {D : DT} {L : LT} {xs : Nat → Int32} {nn : Nat} {a1 : Int32} {a2 : Int32} {I : IT} {K : Int32 → IT → Prop} (hf : l.stackTraces = false)  (h : f_L_pours xs nn a1 a2 I K) : ConL l D nn xs m_L_pours 8 [.ref 0, .int a1, .int a2] 32 192 I L (Pi L K) := by
  refine ConL.of (by decide +kernel) (by simp [Value.category]) (Nat.le_of_ble_eq_true rfl) (fun X hX hT hN hS => ?_)
  have hX : OK X D cL_pours "TeaHouseLaw" 5 := hX
  have hT : RT X l D (some .int) (P2 (Pi L K)) 8 32 192 := hT
  have hR := hT.room
  change J2 X D 5 0 0 I L 0 [.ref 0, .int a1, .int a2, .retAddr 0, .retAddr 0] []
  rw [f_L_pours] at h
  refine q_sipush hX dL_pours_0 (v := (-30000)) (by decide) ?_
  refine q_istore_n hX dL_pours_3 (by decide) (ls' := [_, _, _, _, _]) rfl ?_
  refine q_iconst hX dL_pours_4 (v := (nI 0)) (by decide) ?_
  refine q_istore hX dL_pours_5 (by decide) (ls' := [_, _, _, _, _]) rfl ?_
  exact q_dr (w_L_pours_b7 hf hX hT hN hS    _  (by omega) (by omega) _ _ _  h) ⟨Or.inl rfl, Or.inl rfl, Or.inl rfl, Or.inl rfl, Or.inl rfl, trivial⟩
set_option maxRecDepth 100000 in
set_option maxHeartbeats 4000000 in
theorem w_L_isLine_b12 {X : XT} {D : DT} {l : Launch} {L : LT} {xs : Nat → Int32} {nn : Nat} {a1 : Int32} {a2 : Nat} {K : Int32 → IT → Prop} (hf : l.stackTraces = false) (hX : OK X D cL_isLine "TeaHouseLaw" 4) (hT : RT X l D (some .boolean) (P2 (Pz L K)) 13 200 1200) (hN : NCX X) (hS : ScrX X D nn xs) (ha2 : isTx a2)  : ∀ (n : Nat), ∀ {c w : Nat}, c + (n * 1 + 0) ≤ 200 → w + (n * 6 + 0) ≤ 1200 → ∀ (v3 : Int32) (I : IT), f_L_isLine_b12 xs nn a1 a2 K n v3 I → J2 X D 4 c w I L 12 [.ref 0, .int a1, .ref a2, .int v3] [] := by
  have hR := hT.room
  intro n
  induction n with
  | zero => intro c w hc hw v3 I h; exact False.elim h
  | succ n ih =>
    intro c w hc hw v3 I h
    rw [f_L_isLine_b12] at h
    refine q_iload_n hX dL_isLine_12 rfl ?_
    refine q_iload_n hX dL_isLine_13 rfl ?_
    refine q_icmp_ge hX dL_isLine_14 (tgt := 38) (by decide) (fun q1 => ?_) (fun q1 => ?_)
    · replace h := ite_t q1 h
      refine q_iconst hX dL_isLine_38 (v := (nI 1)) (by decide) ?_
      exact q_zret hX hT dL_isLine_39 (Or.inr rfl) h (by omega) (by omega)
    · replace h := ite_f q1 h
      refine q_aload_n hX dL_isLine_17 rfl ?_
      refine q_iload_n hX dL_isLine_18 rfl ?_
      refine q_W_cp hX hR (w_X8_lineChar hf  h) lk_L_150 (rc2_of (ci := 9) rfl rfl) dL_isLine_19 rfl rfl (Nat.le_of_ble_eq_true rfl) (by omega) (by omega) (by omega) ?_ ?_
      rotate_left
      · intro E h
        exact False.elim h
      intro x2 hrx2 h
      refine q_aload_n hX dL_isLine_22 rfl ?_
      refine q_iload_n hX dL_isLine_23 rfl ?_
      refine q_T_charAt hX hR ha2 lk_L_166 dL_isLine_24 (Nat.le_of_ble_eq_true rfl) (by omega) (by omega) (by omega) h ?_
      intro x3 hrx3 h
      refine q_icmp_eq hX dL_isLine_27 (tgt := 32) (by decide) (fun q4 => ?_) (fun q4 => ?_)
      · replace h := ite_t q4 h
        replace h := bnd_e h
        refine q_iinc hX dL_isLine_32 (by decide) rfl (v := _ + nI 1) (ls' := [_, _, _, _]) rfl rfl ?_
        refine q_goto hX dL_isLine_35 (tgt := 12) (by decide) ?_
        exact q_dr (ih (by omega) (by omega) _ _  h) ⟨Or.inl rfl, Or.inl rfl, Or.inl rfl, Or.inl rfl, trivial⟩
      · replace h := ite_f q4 h
        refine q_iconst hX dL_isLine_30 (v := (nI 0)) (by decide) ?_
        exact q_zret hX hT dL_isLine_31 (Or.inl rfl) h (by omega) (by omega)
set_option maxRecDepth 100000 in
set_option maxHeartbeats 4000000 in
theorem w_L_isLine {l : Launch} {D : DT} {L : LT} {xs : Nat → Int32} {nn : Nat} {a1 : Int32} {a2 : Nat} {I : IT} {K : Int32 → IT → Prop} (hf : l.stackTraces = false) (ha2 : isTx a2) (h : f_L_isLine xs nn a1 a2 I K) : ConL l D nn xs m_L_isLine 13 [.ref 0, .int a1, .ref a2] 200 1200 I L (Pz L K) := by
  refine ConL.of (by decide +kernel) (by simp [Value.category]) (Nat.le_of_ble_eq_true rfl) (fun X hX hT hN hS => ?_)
  have hX : OK X D cL_isLine "TeaHouseLaw" 4 := hX
  have hT : RT X l D (some .boolean) (P2 (Pz L K)) 13 200 1200 := hT
  have hR := hT.room
  change J2 X D 4 0 0 I L 0 [.ref 0, .int a1, .ref a2, .retAddr 0] []
  rw [f_L_isLine] at h
  refine q_iload_n hX dL_isLine_0 rfl ?_
  refine q_aload_n hX dL_isLine_1 rfl ?_
  refine q_T_length hX hR ha2 lk_L_161 dL_isLine_2 (Nat.le_of_ble_eq_true rfl) (by omega) (by omega) (by omega) h ?_
  intro x1 h
  refine q_icmp_eq hX dL_isLine_5 (tgt := 10) (by decide) (fun q2 => ?_) (fun q2 => ?_)
  · replace h := ite_t q2 h
    refine q_iconst hX dL_isLine_10 (v := (nI 0)) (by decide) ?_
    refine q_istore_n hX dL_isLine_11 (by decide) (ls' := [_, _, _, _]) rfl ?_
    exact q_dr (w_L_isLine_b12 hf hX hT hN hS ha2   _  (by omega) (by omega) _ _  h) ⟨Or.inl rfl, Or.inl rfl, Or.inl rfl, Or.inl rfl, trivial⟩
  · replace h := ite_f q2 h
    refine q_iconst hX dL_isLine_8 (v := (nI 0)) (by decide) ?_
    exact q_zret hX hT dL_isLine_9 (Or.inl rfl) h (by omega) (by omega)
