set_option maxRecDepth 100000 in
set_option maxHeartbeats 4000000 in
theorem w_X8_orderAt {l : Launch} {D : DT} {L : LT} {a1 : Int32} {I : IT} {K : Int32 → Prop} {KT : String → Prop} (hf : l.stackTraces = false)  (h : f_X8_orderAt a1 I K KT) : Con2 l D m_X8_orderAt 7 [.ref 0, .int a1] 1 6 I L (Px (Pi L (fun x I' => I' = I ∧ K x)) L (fun E I' => I' = I ∧ KT E)) := by
  refine Con2.of (by decide +kernel) (by simp [Value.category]) (Nat.le_of_ble_eq_true rfl) (fun X hX hT => ?_)
  have hX : OK X D cX8_orderAt "TeaHouse" 2 := hX
  have hT : RT X l D (some .int) (P2 (Px (Pi L (fun x I' => I' = I ∧ K x)) L (fun E I' => I' = I ∧ KT E))) 7 1 6 := hT
  have hR := hT.room
  change J2 X D 2 0 0 I L 0 [.ref 0, .int a1] []
  rw [f_X8_orderAt] at h
  refine q_aload_n hX dX8_orderAt_0 rfl ?_
  refine q_getR hX gf_X8_12 rfl dX8_orderAt_1 (at_of (n := 0) rfl) (b := 1) rfl ?_
  refine q_getR hX gf_X8_160 rfl dX8_orderAt_4 (at_of (n := 0) rfl) (b := 8) rfl ?_
  refine q_iload_n hX dX8_orderAt_7 rfl ?_
  refine q_V_ip hX hR (w_X5_numberAt (ord_n (a := 8) rfl) h) lk_X8_167 (rc2_of (ci := 8) rfl rfl) dX8_orderAt_8 rfl rfl (Nat.le_of_ble_eq_true rfl) (by omega) (by omega) (by omega) ?_
  intro x1 h
  refine q_S_ipx hX hR hT (w_X8_requireFound hf  h) lk_X8_151 dX8_orderAt_11 rfl rfl (Nat.le_of_ble_eq_true rfl) (by omega) (by omega) (by omega) (fun _ _ h => h) ?_
  intro x2 h
  exact q_x_iretp hX hT dX8_orderAt_14 h (by omega) (by omega)
set_option maxRecDepth 100000 in
set_option maxHeartbeats 4000000 in
theorem w_X8_positionOf {l : Launch} {D : DT} {L : LT} {a1 : Int32} {I : IT} {K : Int32 → Prop} {KT : String → Prop} (hf : l.stackTraces = false)  (h : f_X8_positionOf a1 I K KT) : Con2 l D m_X8_positionOf 7 [.ref 0, .int a1] 1 6 I L (Px (Pi L (fun x I' => I' = I ∧ K x)) L (fun E I' => I' = I ∧ KT E)) := by
  refine Con2.of (by decide +kernel) (by simp [Value.category]) (Nat.le_of_ble_eq_true rfl) (fun X hX hT => ?_)
  have hX : OK X D cX8_positionOf "TeaHouse" 2 := hX
  have hT : RT X l D (some .int) (P2 (Px (Pi L (fun x I' => I' = I ∧ K x)) L (fun E I' => I' = I ∧ KT E))) 7 1 6 := hT
  have hR := hT.room
  change J2 X D 2 0 0 I L 0 [.ref 0, .int a1] []
  rw [f_X8_positionOf] at h
  refine q_aload_n hX dX8_positionOf_0 rfl ?_
  refine q_getR hX gf_X8_12 rfl dX8_positionOf_1 (at_of (n := 0) rfl) (b := 1) rfl ?_
  refine q_getR hX gf_X8_160 rfl dX8_positionOf_4 (at_of (n := 0) rfl) (b := 8) rfl ?_
  refine q_iload_n hX dX8_positionOf_7 rfl ?_
  refine q_V_ip hX hR (w_X5_find (ord_n (a := 8) rfl) h) lk_X8_170 (rc2_of (ci := 8) rfl rfl) dX8_positionOf_8 rfl rfl (Nat.le_of_ble_eq_true rfl) (by omega) (by omega) (by omega) ?_
  intro x1 h
  refine q_S_ipx hX hR hT (w_X8_requireFound hf  h) lk_X8_151 dX8_positionOf_11 rfl rfl (Nat.le_of_ble_eq_true rfl) (by omega) (by omega) (by omega) (fun _ _ h => h) ?_
  intro x2 h
  exact q_x_iretp hX hT dX8_positionOf_14 h (by omega) (by omega)
set_option maxRecDepth 100000 in
set_option maxHeartbeats 4000000 in
theorem w_X8_cupsOf {l : Launch} {D : DT} {L : LT} {a1 : Int32} {I : IT} {K : Int32 → Prop} {KT : String → Prop} (hf : l.stackTraces = false)  (h : f_X8_cupsOf a1 I K KT) : Con2 l D m_X8_cupsOf 7 [.ref 0, .int a1] 1 6 I L (Px (Pi L (fun x I' => I' = I ∧ K x)) L (fun E I' => I' = I ∧ KT E)) := by
  refine Con2.of (by decide +kernel) (by simp [Value.category]) (Nat.le_of_ble_eq_true rfl) (fun X hX hT => ?_)
  have hX : OK X D cX8_cupsOf "TeaHouse" 3 := hX
  have hT : RT X l D (some .int) (P2 (Px (Pi L (fun x I' => I' = I ∧ K x)) L (fun E I' => I' = I ∧ KT E))) 7 1 6 := hT
  have hR := hT.room
  change J2 X D 3 0 0 I L 0 [.ref 0, .int a1, .retAddr 0] []
  rw [f_X8_cupsOf] at h
  refine q_aload_n hX dX8_cupsOf_0 rfl ?_
  refine q_getR hX gf_X8_12 rfl dX8_cupsOf_1 (at_of (n := 0) rfl) (b := 1) rfl ?_
  refine q_getR hX gf_X8_160 rfl dX8_cupsOf_4 (at_of (n := 0) rfl) (b := 8) rfl ?_
  refine q_iload_n hX dX8_cupsOf_7 rfl ?_
  refine q_V_ip hX hR (w_X5_find (ord_n (a := 8) rfl) h) lk_X8_170 (rc2_of (ci := 8) rfl rfl) dX8_cupsOf_8 rfl rfl (Nat.le_of_ble_eq_true rfl) (by omega) (by omega) (by omega) ?_
  intro x1 h
  refine q_S_ipx hX hR hT (w_X8_requireFound hf  h) lk_X8_151 dX8_cupsOf_11 rfl rfl (Nat.le_of_ble_eq_true rfl) (by omega) (by omega) (by omega) (fun _ _ h => h) ?_
  intro x2 h
  refine q_istore_n hX dX8_cupsOf_14 (by decide) (ls' := [_, _, _]) rfl ?_
  refine q_aload_n hX dX8_cupsOf_15 rfl ?_
  refine q_getR hX gf_X8_12 rfl dX8_cupsOf_16 (at_of (n := 0) rfl) (b := 1) rfl ?_
  refine q_getR hX gf_X8_160 rfl dX8_cupsOf_19 (at_of (n := 0) rfl) (b := 8) rfl ?_
  refine q_getR hX gf_X8_173 rfl dX8_cupsOf_22 (at_of (n := 0) rfl) (b := 11) rfl ?_
  refine q_iload_n hX dX8_cupsOf_25 rfl ?_
  obtain ⟨z3, h⟩ := h
  refine q_iald hX dX8_cupsOf_26 (at_of (a := 11) (t := 22) (n := 10) rfl) (inr_e z3) (inr_lt z3) (by decide) ?_
  exact q_x_iretp hX hT dX8_cupsOf_27 h (by omega) (by omega)
set_option maxRecDepth 100000 in
set_option maxHeartbeats 4000000 in
theorem w_X8_priceOf {l : Launch} {D : DT} {L : LT} {a1 : Int32} {I : IT} {K : UInt32 → Prop} {KT : String → Prop} (hf : l.stackTraces = false)  (h : f_X8_priceOf a1 I K KT) : Con2 l D m_X8_priceOf 7 [.ref 0, .int a1] 1 6 I L (Px (Pf L (fun x I' => I' = I ∧ K x)) L (fun E I' => I' = I ∧ KT E)) := by
  refine Con2.of (by decide +kernel) (by simp [Value.category]) (Nat.le_of_ble_eq_true rfl) (fun X hX hT => ?_)
  have hX : OK X D cX8_priceOf "TeaHouse" 3 := hX
  have hT : RT X l D (some .float) (P2 (Px (Pf L (fun x I' => I' = I ∧ K x)) L (fun E I' => I' = I ∧ KT E))) 7 1 6 := hT
  have hR := hT.room
  change J2 X D 3 0 0 I L 0 [.ref 0, .int a1, .retAddr 0] []
  rw [f_X8_priceOf] at h
  refine q_aload_n hX dX8_priceOf_0 rfl ?_
  refine q_getR hX gf_X8_12 rfl dX8_priceOf_1 (at_of (n := 0) rfl) (b := 1) rfl ?_
  refine q_getR hX gf_X8_160 rfl dX8_priceOf_4 (at_of (n := 0) rfl) (b := 8) rfl ?_
  refine q_iload_n hX dX8_priceOf_7 rfl ?_
  refine q_V_ip hX hR (w_X5_find (ord_n (a := 8) rfl) h) lk_X8_170 (rc2_of (ci := 8) rfl rfl) dX8_priceOf_8 rfl rfl (Nat.le_of_ble_eq_true rfl) (by omega) (by omega) (by omega) ?_
  intro x1 h
  refine q_S_ipx hX hR hT (w_X8_requireFound hf  h) lk_X8_151 dX8_priceOf_11 rfl rfl (Nat.le_of_ble_eq_true rfl) (by omega) (by omega) (by omega) (fun _ _ h => h) ?_
  intro x2 h
  refine q_istore_n hX dX8_priceOf_14 (by decide) (ls' := [_, _, _]) rfl ?_
  refine q_aload_n hX dX8_priceOf_15 rfl ?_
  refine q_getR hX gf_X8_12 rfl dX8_priceOf_16 (at_of (n := 0) rfl) (b := 1) rfl ?_
  refine q_getR hX gf_X8_160 rfl dX8_priceOf_19 (at_of (n := 0) rfl) (b := 8) rfl ?_
  refine q_getR hX gf_X8_173 rfl dX8_priceOf_22 (at_of (n := 0) rfl) (b := 11) rfl ?_
  refine q_iload_n hX dX8_priceOf_25 rfl ?_
  obtain ⟨z3, h⟩ := h
  refine q_iald hX dX8_priceOf_26 (at_of (a := 11) (t := 22) (n := 10) rfl) (inr_e z3) (inr_lt z3) (by decide) ?_
  refine q_aload_n hX dX8_priceOf_27 rfl ?_
  refine q_getR hX gf_X8_12 rfl dX8_priceOf_28 (at_of (n := 0) rfl) (b := 1) rfl ?_
  refine q_getI hX gf_X8_176 rfl dX8_priceOf_31 (at_of (n := 0) rfl) ?_
  refine q_imul hX dX8_priceOf_34 ?_
  refine q_S_fp hX hR (w_X8_eighths  h) lk_X8_99 dX8_priceOf_35 rfl rfl (Nat.le_of_ble_eq_true rfl) (by omega) (by omega) (by omega) ?_
  intro x4 h
  exact q_x_fretp hX hT dX8_priceOf_38 h (by omega) (by omega)
set_option maxRecDepth 100000 in
set_option maxHeartbeats 4000000 in
theorem w_X8_kettleFor {l : Launch} {D : DT} {L : LT} {a1 : Int32} {I : IT} {K : Int32 → Prop} {KT : String → Prop} (hf : l.stackTraces = false)  (h : f_X8_kettleFor a1 I K KT) : Con2 l D m_X8_kettleFor 7 [.ref 0, .int a1] 2 12 I L (Px (Pi L (fun x I' => I' = I ∧ K x)) L (fun E I' => I' = I ∧ KT E)) := by
  refine Con2.of (by decide +kernel) (by simp [Value.category]) (Nat.le_of_ble_eq_true rfl) (fun X hX hT => ?_)
  have hX : OK X D cX8_kettleFor "TeaHouse" 3 := hX
  have hT : RT X l D (some .int) (P2 (Px (Pi L (fun x I' => I' = I ∧ K x)) L (fun E I' => I' = I ∧ KT E))) 7 2 12 := hT
  have hR := hT.room
  change J2 X D 3 0 0 I L 0 [.ref 0, .int a1, .retAddr 0] []
  rw [f_X8_kettleFor] at h
  refine q_aload_n hX dX8_kettleFor_0 rfl ?_
  refine q_getR hX gf_X8_12 rfl dX8_kettleFor_1 (at_of (n := 0) rfl) (b := 1) rfl ?_
  refine q_getR hX gf_X8_160 rfl dX8_kettleFor_4 (at_of (n := 0) rfl) (b := 8) rfl ?_
  refine q_iload_n hX dX8_kettleFor_7 rfl ?_
  refine q_V_ip hX hR (w_X5_find (ord_n (a := 8) rfl) h) lk_X8_170 (rc2_of (ci := 8) rfl rfl) dX8_kettleFor_8 rfl rfl (Nat.le_of_ble_eq_true rfl) (by omega) (by omega) (by omega) ?_
  intro x1 h
  refine q_S_ipx hX hR hT (w_X8_requireFound hf  h) lk_X8_151 dX8_kettleFor_11 rfl rfl (Nat.le_of_ble_eq_true rfl) (by omega) (by omega) (by omega) (fun _ _ h => h) ?_
  intro x2 h
  refine q_istore_n hX dX8_kettleFor_14 (by decide) (ls' := [_, _, _]) rfl ?_
  refine q_aload_n hX dX8_kettleFor_15 rfl ?_
  refine q_getR hX gf_X8_12 rfl dX8_kettleFor_16 (at_of (n := 0) rfl) (b := 1) rfl ?_
  refine q_getR hX gf_X8_117 rfl dX8_kettleFor_19 (at_of (n := 0) rfl) (b := 2) rfl ?_
  refine q_aload_n hX dX8_kettleFor_22 rfl ?_
  refine q_getR hX gf_X8_12 rfl dX8_kettleFor_23 (at_of (n := 0) rfl) (b := 1) rfl ?_
  refine q_getR hX gf_X8_160 rfl dX8_kettleFor_26 (at_of (n := 0) rfl) (b := 8) rfl ?_
  refine q_getR hX gf_X8_173 rfl dX8_kettleFor_29 (at_of (n := 0) rfl) (b := 11) rfl ?_
  refine q_iload_n hX dX8_kettleFor_32 rfl ?_
  obtain ⟨z3, h⟩ := h
  refine q_iald hX dX8_kettleFor_33 (at_of (a := 11) (t := 22) (n := 10) rfl) (inr_e z3) (inr_lt z3) (by decide) ?_
  refine q_aload_n hX dX8_kettleFor_34 rfl ?_
  refine q_getR hX gf_X8_12 rfl dX8_kettleFor_35 (at_of (n := 0) rfl) (b := 1) rfl ?_
  refine q_getR hX gf_X8_160 rfl dX8_kettleFor_38 (at_of (n := 0) rfl) (b := 8) rfl ?_
  refine q_getR hX gf_X8_179 rfl dX8_kettleFor_41 (at_of (n := 0) rfl) (b := 12) rfl ?_
  refine q_iload_n hX dX8_kettleFor_44 rfl ?_
  refine q_iald hX dX8_kettleFor_45 (at_of (a := 12) (t := 22) (n := 10) rfl) (inr_e z3) (inr_lt z3) (by decide) ?_
  refine q_V_ip hX hR (w_X3_suitable (ket_n (a := 2) rfl) h) lk_X8_182 (rc2_of (ci := 6) rfl rfl) dX8_kettleFor_46 rfl rfl (Nat.le_of_ble_eq_true rfl) (by omega) (by omega) (by omega) ?_
  intro x4 h
  refine q_S_ipx hX hR hT (w_X8_requireFound hf  h) lk_X8_151 dX8_kettleFor_49 rfl rfl (Nat.le_of_ble_eq_true rfl) (by omega) (by omega) (by omega) (fun _ _ h => h) ?_
  intro x5 h
  exact q_x_iretp hX hT dX8_kettleFor_52 h (by omega) (by omega)
set_option maxRecDepth 100000 in
set_option maxHeartbeats 4000000 in
theorem w_X8_waitOnCopy_b40 {X : XT} {D : DT} {l : Launch} {L : LT} {a1 : Int32} {a2 : Int32} {K : Int32 → IT → Prop} {X16 : Int32 → IT → Prop} (hX : OK X D cX8_waitOnCopy "TeaHouse" 5) (hT : RT X l D (some .int) (P2 (Pi L K)) 4 0 0)  (hx16 : ∀ (v3 : Int32) (I : IT), X16 v3 I → J2 X D 5 0 0 I L 16 [.ref 0, .int a1, .int a2, .int v3, .retAddr 0] []) : ∀ (n : Nat), ∀ (v3 : Int32) (v4 : Int32) (I : IT), f_X8_waitOnCopy_b40 a1 a2 X16 K n v3 v4 I → J2 X D 5 0 0 I L 40 [.ref 0, .int a1, .int a2, .int v3, .int v4] [] := by
  have hR := hT.room
  intro n
  induction n with
  | zero => intro v3 v4 I h; exact False.elim h
  | succ n ih =>
    intro v3 v4 I h
    rw [f_X8_waitOnCopy_b40] at h
    refine q_iload hX dX8_waitOnCopy_40 rfl ?_
    refine q_aload_n hX dX8_waitOnCopy_42 rfl ?_
    refine q_getR hX gf_X8_29 rfl dX8_waitOnCopy_43 (at_of (n := 0) rfl) (b := 50) rfl ?_
    refine q_getI hX gf_X8_120 rfl dX8_waitOnCopy_46 (at_of (n := 0) rfl) ?_
    refine q_icmp_ge hX dX8_waitOnCopy_49 (tgt := 68) (by decide) (fun q1 => ?_) (fun q1 => ?_)
    · replace h := ite_t q1 h
      replace h := bnd_e h
      refine q_iinc hX dX8_waitOnCopy_68 (by decide) rfl (v := _ + nI 1) (ls' := [_, _, _, _, _]) rfl rfl ?_
      refine q_goto hX dX8_waitOnCopy_71 (tgt := 16) (by decide) ?_
      exact q_dr (hx16 _ _  h) ⟨Or.inl rfl, Or.inl rfl, Or.inl rfl, Or.inl rfl, Or.inr rfl, trivial⟩
    · replace h := ite_f q1 h
      refine q_aload_n hX dX8_waitOnCopy_52 rfl ?_
      refine q_getR hX gf_X8_29 rfl dX8_waitOnCopy_53 (at_of (n := 0) rfl) (b := 50) rfl ?_
      refine q_iload hX dX8_waitOnCopy_56 rfl ?_
      refine q_V_i hX hR (w_X3_passMinute (ket_n (a := 50) rfl) h) lk_X8_374 (rc2_of (ci := 6) rfl rfl) dX8_waitOnCopy_58 rfl rfl (Nat.le_of_ble_eq_true rfl) (by omega) (by omega) (by omega) ?_
      intro x3 I4 h
      refine q_pop hX dX8_waitOnCopy_61 rfl ?_
      replace h := bnd_e h
      refine q_iinc hX dX8_waitOnCopy_62 (by decide) rfl (v := _ + nI 1) (ls' := [_, _, _, _, _]) rfl rfl ?_
      refine q_goto hX dX8_waitOnCopy_65 (tgt := 40) (by decide) ?_
      exact q_dr (ih _ _ _  h) ⟨Or.inl rfl, Or.inl rfl, Or.inl rfl, Or.inl rfl, Or.inl rfl, trivial⟩
set_option maxRecDepth 100000 in
set_option maxHeartbeats 4000000 in
theorem w_X8_waitOnCopy_b16 {X : XT} {D : DT} {l : Launch} {L : LT} {a1 : Int32} {a2 : Int32} {K : Int32 → IT → Prop} (hX : OK X D cX8_waitOnCopy "TeaHouse" 5) (hT : RT X l D (some .int) (P2 (Pi L K)) 4 0 0)   : ∀ (n : Nat), ∀ (v3 : Int32) (I : IT), f_X8_waitOnCopy_b16 a1 a2 K n v3 I → J2 X D 5 0 0 I L 16 [.ref 0, .int a1, .int a2, .int v3, .retAddr 0] [] := by
  have hR := hT.room
  intro n
  induction n with
  | zero => intro v3 I h; exact False.elim h
  | succ n ih =>
    intro v3 I h
    rw [f_X8_waitOnCopy_b16] at h
    refine q_iload_n hX dX8_waitOnCopy_16 rfl ?_
    refine q_bipush hX dX8_waitOnCopy_17 (v := (nI 120)) (by decide) ?_
    refine q_icmp_gt hX dX8_waitOnCopy_19 (tgt := 74) (by decide) (fun q1 => ?_) (fun q1 => ?_)
    · replace h := ite_t q1 h
      refine q_iconst hX dX8_waitOnCopy_74 (v := (-1)) (by decide) ?_
      exact q_iret hX hT dX8_waitOnCopy_75 h
    · replace h := ite_f q1 h
      refine q_aload_n hX dX8_waitOnCopy_22 rfl ?_
      refine q_getR hX gf_X8_29 rfl dX8_waitOnCopy_23 (at_of (n := 0) rfl) (b := 50) rfl ?_
      refine q_iload_n hX dX8_waitOnCopy_26 rfl ?_
      refine q_iload_n hX dX8_waitOnCopy_27 rfl ?_
      refine q_V_ip hX hR (w_X3_suitable (ket_n (a := 50) rfl) h) lk_X8_182 (rc2_of (ci := 6) rfl rfl) dX8_waitOnCopy_28 rfl rfl (Nat.le_of_ble_eq_true rfl) (by omega) (by omega) (by omega) ?_
      intro x2 h
      refine q_iconst hX dX8_waitOnCopy_31 (v := (-1)) (by decide) ?_
      refine q_icmp_eq hX dX8_waitOnCopy_32 (tgt := 37) (by decide) (fun q3 => ?_) (fun q3 => ?_)
      · replace h := ite_t q3 h
        refine q_iconst hX dX8_waitOnCopy_37 (v := (nI 0)) (by decide) ?_
        refine q_istore hX dX8_waitOnCopy_38 (by decide) (ls' := [_, _, _, _, _]) rfl ?_
        exact q_dr (w_X8_waitOnCopy_b40 hX hT  (fun _ _ h => ih _ _  h) _  _ _ _  h) ⟨Or.inl rfl, Or.inl rfl, Or.inl rfl, Or.inl rfl, Or.inl rfl, trivial⟩
      · replace h := ite_f q3 h
        refine q_iload_n hX dX8_waitOnCopy_35 rfl ?_
        exact q_iret hX hT dX8_waitOnCopy_36 h
set_option maxRecDepth 100000 in
set_option maxHeartbeats 4000000 in
theorem w_X8_waitOnCopy {l : Launch} {D : DT} {L : LT} {a1 : Int32} {a2 : Int32} {I : IT} {K : Int32 → IT → Prop}  (h : f_X8_waitOnCopy a1 a2 I K) : Con2 l D m_X8_waitOnCopy 4 [.ref 0, .int a1, .int a2] 0 0 I L (Pi L K) := by
  refine Con2.of (by decide +kernel) (by simp [Value.category]) (Nat.le_of_ble_eq_true rfl) (fun X hX hT => ?_)
  have hX : OK X D cX8_waitOnCopy "TeaHouse" 5 := hX
  have hT : RT X l D (some .int) (P2 (Pi L K)) 4 0 0 := hT
  have hR := hT.room
  change J2 X D 5 0 0 I L 0 [.ref 0, .int a1, .int a2, .retAddr 0, .retAddr 0] []
  rw [f_X8_waitOnCopy] at h
  refine q_aload_n hX dX8_waitOnCopy_0 rfl ?_
  refine q_getR hX gf_X8_29 rfl dX8_waitOnCopy_1 (at_of (n := 0) rfl) (b := 50) rfl ?_
  refine q_aload_n hX dX8_waitOnCopy_4 rfl ?_
  refine q_getR hX gf_X8_12 rfl dX8_waitOnCopy_5 (at_of (n := 0) rfl) (b := 1) rfl ?_
  refine q_getR hX gf_X8_117 rfl dX8_waitOnCopy_8 (at_of (n := 0) rfl) (b := 2) rfl ?_
  refine q_V_v hX hR (w_X3_copyFrom (ket_n (a := 50) rfl) (ket_n (a := 2) rfl) h) lk_X8_371 (rc2_of (ci := 6) rfl rfl) dX8_waitOnCopy_11 rfl rfl (Nat.le_of_ble_eq_true rfl) (by omega) (by omega) (by omega) ?_
  intro I1 h
  refine q_iconst hX dX8_waitOnCopy_14 (v := (nI 0)) (by decide) ?_
  refine q_istore_n hX dX8_waitOnCopy_15 (by decide) (ls' := [_, _, _, _, _]) rfl ?_
  exact q_dr (w_X8_waitOnCopy_b16 hX hT   _  _ _  h) ⟨Or.inl rfl, Or.inl rfl, Or.inl rfl, Or.inl rfl, Or.inl rfl, trivial⟩
set_option maxRecDepth 100000 in
set_option maxHeartbeats 4000000 in
theorem w_X8_minutesUntilSuitable {l : Launch} {D : DT} {L : LT} {a1 : Int32} {I : IT} {K : Int32 → IT → Prop} {KT : String → IT → Prop} (hf : l.stackTraces = false)  (h : f_X8_minutesUntilSuitable a1 I K KT) : Con2 l D m_X8_minutesUntilSuitable 7 [.ref 0, .int a1] 2 12 I L (Px (Pi L K) L KT) := by
  refine Con2.of (by decide +kernel) (by simp [Value.category]) (Nat.le_of_ble_eq_true rfl) (fun X hX hT => ?_)
  have hX : OK X D cX8_minutesUntilSuitable "TeaHouse" 3 := hX
  have hT : RT X l D (some .int) (P2 (Px (Pi L K) L KT)) 7 2 12 := hT
  have hR := hT.room
  change J2 X D 3 0 0 I L 0 [.ref 0, .int a1, .retAddr 0] []
  rw [f_X8_minutesUntilSuitable] at h
  refine q_aload_n hX dX8_minutesUntilSuitable_0 rfl ?_
  refine q_getR hX gf_X8_12 rfl dX8_minutesUntilSuitable_1 (at_of (n := 0) rfl) (b := 1) rfl ?_
  refine q_getR hX gf_X8_160 rfl dX8_minutesUntilSuitable_4 (at_of (n := 0) rfl) (b := 8) rfl ?_
  refine q_iload_n hX dX8_minutesUntilSuitable_7 rfl ?_
  refine q_V_ip hX hR (w_X5_find (ord_n (a := 8) rfl) h) lk_X8_170 (rc2_of (ci := 8) rfl rfl) dX8_minutesUntilSuitable_8 rfl rfl (Nat.le_of_ble_eq_true rfl) (by omega) (by omega) (by omega) ?_
  intro x1 h
  refine q_S_ipx hX hR hT (w_X8_requireFound hf  h) lk_X8_151 dX8_minutesUntilSuitable_11 rfl rfl (Nat.le_of_ble_eq_true rfl) (by omega) (by omega) (by omega) (fun _ _ h => by obtain ⟨rfl, h⟩ := h; exact h) ?_
  intro x2 h
  refine q_istore_n hX dX8_minutesUntilSuitable_14 (by decide) (ls' := [_, _, _]) rfl ?_
  refine q_aload_n hX dX8_minutesUntilSuitable_15 rfl ?_
  refine q_aload_n hX dX8_minutesUntilSuitable_16 rfl ?_
  refine q_getR hX gf_X8_12 rfl dX8_minutesUntilSuitable_17 (at_of (n := 0) rfl) (b := 1) rfl ?_
  refine q_getR hX gf_X8_160 rfl dX8_minutesUntilSuitable_20 (at_of (n := 0) rfl) (b := 8) rfl ?_
  refine q_getR hX gf_X8_173 rfl dX8_minutesUntilSuitable_23 (at_of (n := 0) rfl) (b := 11) rfl ?_
  refine q_iload_n hX dX8_minutesUntilSuitable_26 rfl ?_
  obtain ⟨z3, h⟩ := h
  refine q_iald hX dX8_minutesUntilSuitable_27 (at_of (a := 11) (t := 22) (n := 10) rfl) (inr_e z3) (inr_lt z3) (by decide) ?_
  refine q_aload_n hX dX8_minutesUntilSuitable_28 rfl ?_
  refine q_getR hX gf_X8_12 rfl dX8_minutesUntilSuitable_29 (at_of (n := 0) rfl) (b := 1) rfl ?_
  refine q_getR hX gf_X8_160 rfl dX8_minutesUntilSuitable_32 (at_of (n := 0) rfl) (b := 8) rfl ?_
  refine q_getR hX gf_X8_179 rfl dX8_minutesUntilSuitable_35 (at_of (n := 0) rfl) (b := 12) rfl ?_
  refine q_iload_n hX dX8_minutesUntilSuitable_38 rfl ?_
  refine q_iald hX dX8_minutesUntilSuitable_39 (at_of (a := 12) (t := 22) (n := 10) rfl) (inr_e z3) (inr_lt z3) (by decide) ?_
  refine q_V_i hX hR (w_X8_waitOnCopy  h) lk_X8_186 (rc2_of (ci := 9) rfl rfl) dX8_minutesUntilSuitable_40 rfl rfl (Nat.le_of_ble_eq_true rfl) (by omega) (by omega) (by omega) ?_
  intro x4 I5 h
  refine q_S_ipx hX hR hT (w_X8_requireFound hf  h) lk_X8_151 dX8_minutesUntilSuitable_43 rfl rfl (Nat.le_of_ble_eq_true rfl) (by omega) (by omega) (by omega) (fun _ _ h => by obtain ⟨rfl, h⟩ := h; exact h) ?_
  intro x6 h
  exact q_x_iret hX hT dX8_minutesUntilSuitable_46 h (by omega) (by omega)
set_option maxRecDepth 100000 in
set_option maxHeartbeats 4000000 in
theorem w_X8_canServe {l : Launch} {D : DT} {L : LT}  {I : IT} {K : Int32 → Prop}  (h : f_X8_canServe  I K) : Con2 l D m_X8_canServe 5 [.ref 0] 0 0 I L (Pz L (fun x I' => I' = I ∧ K x)) := by
  refine Con2.of (by decide +kernel) (by simp [Value.category]) (Nat.le_of_ble_eq_true rfl) (fun X hX hT => ?_)
  have hX : OK X D cX8_canServe "TeaHouse" 1 := hX
  have hT : RT X l D (some .boolean) (P2 (Pz L (fun x I' => I' = I ∧ K x))) 5 0 0 := hT
  have hR := hT.room
  change J2 X D 1 0 0 I L 0 [.ref 0] []
  rw [f_X8_canServe] at h
  refine q_aload_n hX dX8_canServe_0 rfl ?_
  refine q_getR hX gf_X8_12 rfl dX8_canServe_1 (at_of (n := 0) rfl) (b := 1) rfl ?_
  refine q_gets hX (q := ("TeaHouse$Verb", "SERVE", "LTeaHouse$Verb;", .ref 1000005)) (by decide +kernel) gs_X8_90 dX8_canServe_4 ?_
  refine q_iconst hX dX8_canServe_7 (v := (nI 0)) (by decide) ?_
  refine q_iconst hX dX8_canServe_8 (v := (nI 0)) (by decide) ?_
  refine q_iconst hX dX8_canServe_9 (v := (nI 0)) (by decide) ?_
  refine q_iconst hX dX8_canServe_10 (v := (nI 0)) (by decide) ?_
  refine q_V_ap hX hR (w_X1_refusal (hou_n (a := 1) rfl) ⟨by decide, by decide⟩ h) lk_X8_189 (rc2_of (ci := 4) rfl rfl) dX8_canServe_11 rfl rfl (Nat.le_of_ble_eq_true rfl) (by omega) (by omega) (by omega) ?_
  intro x1 hrx1 h
  refine q_gets hX (q := ("TeaHouse$Refusal", "NOTHING", "LTeaHouse$Refusal;", .ref 1000020)) (by decide +kernel) gs_X8_193 dX8_canServe_14 ?_
  refine q_acmp_ne hX hrx1 ⟨by decide, by decide⟩ dX8_canServe_17 (tgt := 24) (by decide) (fun q2 => ?_) (fun q2 => ?_)
  · replace h := ite_f q2 h
    refine q_iconst hX dX8_canServe_24 (v := (nI 0)) (by decide) ?_
    exact q_zretp hX hT dX8_canServe_25 (Or.inl rfl) h
  · replace h := ite_t q2 h
    refine q_iconst hX dX8_canServe_20 (v := (nI 1)) (by decide) ?_
    refine q_goto hX dX8_canServe_21 (tgt := 25) (by decide) ?_
    exact q_zretp hX hT dX8_canServe_25 (Or.inr rfl) h
set_option maxRecDepth 100000 in
set_option maxHeartbeats 4000000 in
theorem w_X8_cleanCups {l : Launch} {D : DT} {L : LT}  {I : IT} {K : Int32 → Prop}  (h : f_X8_cleanCups  I K) : Con2 l D m_X8_cleanCups 1 [.ref 0] 0 0 I L (Pi L (fun x I' => I' = I ∧ K x)) := by
  refine Con2.of (by decide +kernel) (by simp [Value.category]) (Nat.le_of_ble_eq_true rfl) (fun X hX hT => ?_)
  have hX : OK X D cX8_cleanCups "TeaHouse" 1 := hX
  have hT : RT X l D (some .int) (P2 (Pi L (fun x I' => I' = I ∧ K x))) 1 0 0 := hT
  have hR := hT.room
  change J2 X D 1 0 0 I L 0 [.ref 0] []
  rw [f_X8_cleanCups] at h
  refine q_aload_n hX dX8_cleanCups_0 rfl ?_
  refine q_getR hX gf_X8_12 rfl dX8_cleanCups_1 (at_of (n := 0) rfl) (b := 1) rfl ?_
  refine q_getI hX gf_X8_199 rfl dX8_cleanCups_4 (at_of (n := 0) rfl) ?_
  exact q_iretp hX hT dX8_cleanCups_7 h
set_option maxRecDepth 100000 in
set_option maxHeartbeats 4000000 in
theorem w_X8_steam {l : Launch} {D : DT} {L : LT}  {I : IT} {K : UInt32 → Prop}  (h : f_X8_steam  I K) : Con2 l D m_X8_steam 2 [.ref 0] 0 0 I L (Pf L (fun x I' => I' = I ∧ K x)) := by
  refine Con2.of (by decide +kernel) (by simp [Value.category]) (Nat.le_of_ble_eq_true rfl) (fun X hX hT => ?_)
  have hX : OK X D cX8_steam "TeaHouse" 1 := hX
  have hT : RT X l D (some .float) (P2 (Pf L (fun x I' => I' = I ∧ K x))) 2 0 0 := hT
  have hR := hT.room
  change J2 X D 1 0 0 I L 0 [.ref 0] []
  rw [f_X8_steam] at h
  refine q_aload_n hX dX8_steam_0 rfl ?_
  refine q_getR hX gf_X8_12 rfl dX8_steam_1 (at_of (n := 0) rfl) (b := 1) rfl ?_
  refine q_getI hX gf_X8_202 rfl dX8_steam_4 (at_of (n := 0) rfl) ?_
  refine q_S_fp hX hR (w_X8_eighths  h) lk_X8_99 dX8_steam_7 rfl rfl (Nat.le_of_ble_eq_true rfl) (by omega) (by omega) (by omega) ?_
  intro x1 h
  exact q_fretp hX hT dX8_steam_10 h
set_option maxRecDepth 100000 in
set_option maxHeartbeats 4000000 in
theorem w_X8_boiledTotal {l : Launch} {D : DT} {L : LT}  {I : IT} {K : UInt32 → Prop}  (h : f_X8_boiledTotal  I K) : Con2 l D m_X8_boiledTotal 2 [.ref 0] 0 0 I L (Pf L (fun x I' => I' = I ∧ K x)) := by
  refine Con2.of (by decide +kernel) (by simp [Value.category]) (Nat.le_of_ble_eq_true rfl) (fun X hX hT => ?_)
  have hX : OK X D cX8_boiledTotal "TeaHouse" 1 := hX
  have hT : RT X l D (some .float) (P2 (Pf L (fun x I' => I' = I ∧ K x))) 2 0 0 := hT
  have hR := hT.room
  change J2 X D 1 0 0 I L 0 [.ref 0] []
  rw [f_X8_boiledTotal] at h
  refine q_aload_n hX dX8_boiledTotal_0 rfl ?_
  refine q_getR hX gf_X8_12 rfl dX8_boiledTotal_1 (at_of (n := 0) rfl) (b := 1) rfl ?_
  refine q_getI hX gf_X8_205 rfl dX8_boiledTotal_4 (at_of (n := 0) rfl) ?_
  refine q_S_fp hX hR (w_X8_eighths  h) lk_X8_99 dX8_boiledTotal_7 rfl rfl (Nat.le_of_ble_eq_true rfl) (by omega) (by omega) (by omega) ?_
  intro x1 h
  exact q_fretp hX hT dX8_boiledTotal_10 h
set_option maxRecDepth 100000 in
set_option maxHeartbeats 4000000 in
theorem w_X8_pouredTotal {l : Launch} {D : DT} {L : LT}  {I : IT} {K : UInt32 → Prop}  (h : f_X8_pouredTotal  I K) : Con2 l D m_X8_pouredTotal 2 [.ref 0] 0 0 I L (Pf L (fun x I' => I' = I ∧ K x)) := by
  refine Con2.of (by decide +kernel) (by simp [Value.category]) (Nat.le_of_ble_eq_true rfl) (fun X hX hT => ?_)
  have hX : OK X D cX8_pouredTotal "TeaHouse" 1 := hX
  have hT : RT X l D (some .float) (P2 (Pf L (fun x I' => I' = I ∧ K x))) 2 0 0 := hT
  have hR := hT.room
  change J2 X D 1 0 0 I L 0 [.ref 0] []
  rw [f_X8_pouredTotal] at h
  refine q_aload_n hX dX8_pouredTotal_0 rfl ?_
  refine q_getR hX gf_X8_12 rfl dX8_pouredTotal_1 (at_of (n := 0) rfl) (b := 1) rfl ?_
  refine q_getI hX gf_X8_207 rfl dX8_pouredTotal_4 (at_of (n := 0) rfl) ?_
  refine q_S_fp hX hR (w_X8_eighths  h) lk_X8_99 dX8_pouredTotal_7 rfl rfl (Nat.le_of_ble_eq_true rfl) (by omega) (by omega) (by omega) ?_
  intro x1 h
  exact q_fretp hX hT dX8_pouredTotal_10 h
set_option maxRecDepth 100000 in
set_option maxHeartbeats 4000000 in
theorem w_X8_filledTotal {l : Launch} {D : DT} {L : LT}  {I : IT} {K : UInt32 → Prop}  (h : f_X8_filledTotal  I K) : Con2 l D m_X8_filledTotal 2 [.ref 0] 0 0 I L (Pf L (fun x I' => I' = I ∧ K x)) := by
  refine Con2.of (by decide +kernel) (by simp [Value.category]) (Nat.le_of_ble_eq_true rfl) (fun X hX hT => ?_)
  have hX : OK X D cX8_filledTotal "TeaHouse" 1 := hX
  have hT : RT X l D (some .float) (P2 (Pf L (fun x I' => I' = I ∧ K x))) 2 0 0 := hT
  have hR := hT.room
  change J2 X D 1 0 0 I L 0 [.ref 0] []
  rw [f_X8_filledTotal] at h
  refine q_aload_n hX dX8_filledTotal_0 rfl ?_
  refine q_getR hX gf_X8_12 rfl dX8_filledTotal_1 (at_of (n := 0) rfl) (b := 1) rfl ?_
  refine q_getI hX gf_X8_210 rfl dX8_filledTotal_4 (at_of (n := 0) rfl) ?_
  refine q_S_fp hX hR (w_X8_eighths  h) lk_X8_99 dX8_filledTotal_7 rfl rfl (Nat.le_of_ble_eq_true rfl) (by omega) (by omega) (by omega) ?_
  intro x1 h
  exact q_fretp hX hT dX8_filledTotal_10 h
set_option maxRecDepth 100000 in
set_option maxHeartbeats 4000000 in
theorem w_X8_cupPrice {l : Launch} {D : DT} {L : LT}  {I : IT} {K : UInt32 → Prop}  (h : f_X8_cupPrice  I K) : Con2 l D m_X8_cupPrice 2 [.ref 0] 0 0 I L (Pf L (fun x I' => I' = I ∧ K x)) := by
  refine Con2.of (by decide +kernel) (by simp [Value.category]) (Nat.le_of_ble_eq_true rfl) (fun X hX hT => ?_)
  have hX : OK X D cX8_cupPrice "TeaHouse" 1 := hX
  have hT : RT X l D (some .float) (P2 (Pf L (fun x I' => I' = I ∧ K x))) 2 0 0 := hT
  have hR := hT.room
  change J2 X D 1 0 0 I L 0 [.ref 0] []
  rw [f_X8_cupPrice] at h
  refine q_aload_n hX dX8_cupPrice_0 rfl ?_
  refine q_getR hX gf_X8_12 rfl dX8_cupPrice_1 (at_of (n := 0) rfl) (b := 1) rfl ?_
  refine q_getI hX gf_X8_176 rfl dX8_cupPrice_4 (at_of (n := 0) rfl) ?_
  refine q_S_fp hX hR (w_X8_eighths  h) lk_X8_99 dX8_cupPrice_7 rfl rfl (Nat.le_of_ble_eq_true rfl) (by omega) (by omega) (by omega) ?_
  intro x1 h
  exact q_fretp hX hT dX8_cupPrice_10 h
set_option maxRecDepth 100000 in
set_option maxHeartbeats 4000000 in
theorem w_X8_steamPrice {l : Launch} {D : DT} {L : LT}  {I : IT} {K : UInt32 → Prop}  (h : f_X8_steamPrice  I K) : Con2 l D m_X8_steamPrice 1 [.ref 0] 0 0 I L (Pf L (fun x I' => I' = I ∧ K x)) := by
  refine Con2.of (by decide +kernel) (by simp [Value.category]) (Nat.le_of_ble_eq_true rfl) (fun X hX hT => ?_)
  have hX : OK X D cX8_steamPrice "TeaHouse" 1 := hX
  have hT : RT X l D (some .float) (P2 (Pf L (fun x I' => I' = I ∧ K x))) 1 0 0 := hT
  have hR := hT.room
  change J2 X D 1 0 0 I L 0 [.ref 0] []
  rw [f_X8_steamPrice] at h
  refine q_aload_n hX dX8_steamPrice_0 rfl ?_
  refine q_getR hX gf_X8_12 rfl dX8_steamPrice_1 (at_of (n := 0) rfl) (b := 1) rfl ?_
  refine q_getI hX gf_X8_213 rfl dX8_steamPrice_4 (at_of (n := 0) rfl) ?_
  refine q_i2f hX dX8_steamPrice_7 ?_
  exact q_fretp hX hT dX8_steamPrice_8 h
set_option maxRecDepth 100000 in
set_option maxHeartbeats 4000000 in
theorem w_X8_income {l : Launch} {D : DT} {L : LT}  {I : IT} {K : UInt32 → Prop}  (h : f_X8_income  I K) : Con2 l D m_X8_income 2 [.ref 0] 0 0 I L (Pf L (fun x I' => I' = I ∧ K x)) := by
  refine Con2.of (by decide +kernel) (by simp [Value.category]) (Nat.le_of_ble_eq_true rfl) (fun X hX hT => ?_)
  have hX : OK X D cX8_income "TeaHouse" 1 := hX
  have hT : RT X l D (some .float) (P2 (Pf L (fun x I' => I' = I ∧ K x))) 2 0 0 := hT
  have hR := hT.room
  change J2 X D 1 0 0 I L 0 [.ref 0] []
  rw [f_X8_income] at h
  refine q_aload_n hX dX8_income_0 rfl ?_
  refine q_getR hX gf_X8_12 rfl dX8_income_1 (at_of (n := 0) rfl) (b := 1) rfl ?_
  refine q_getR hX gf_X8_216 rfl dX8_income_4 (at_of (n := 0) rfl) (b := 14) rfl ?_
  refine q_getI hX gf_X8_220 rfl dX8_income_7 (at_of (n := 0) rfl) ?_
  refine q_S_fp hX hR (w_X8_eighths  h) lk_X8_99 dX8_income_10 rfl rfl (Nat.le_of_ble_eq_true rfl) (by omega) (by omega) (by omega) ?_
  intro x1 h
  exact q_fretp hX hT dX8_income_13 h
set_option maxRecDepth 100000 in
set_option maxHeartbeats 4000000 in
theorem w_X8_nightCount {l : Launch} {D : DT} {L : LT}  {I : IT} {K : Int32 → Prop}  (h : f_X8_nightCount  I K) : Con2 l D m_X8_nightCount 1 [.ref 0] 0 0 I L (Pi L (fun x I' => I' = I ∧ K x)) := by
  refine Con2.of (by decide +kernel) (by simp [Value.category]) (Nat.le_of_ble_eq_true rfl) (fun X hX hT => ?_)
  have hX : OK X D cX8_nightCount "TeaHouse" 1 := hX
  have hT : RT X l D (some .int) (P2 (Pi L (fun x I' => I' = I ∧ K x))) 1 0 0 := hT
  have hR := hT.room
  change J2 X D 1 0 0 I L 0 [.ref 0] []
  rw [f_X8_nightCount] at h
  refine q_aload_n hX dX8_nightCount_0 rfl ?_
  refine q_getR hX gf_X8_12 rfl dX8_nightCount_1 (at_of (n := 0) rfl) (b := 1) rfl ?_
  refine q_getR hX gf_X8_216 rfl dX8_nightCount_4 (at_of (n := 0) rfl) (b := 14) rfl ?_
  refine q_getI hX gf_X8_225 rfl dX8_nightCount_7 (at_of (n := 0) rfl) ?_
  exact q_iretp hX hT dX8_nightCount_10 h
set_option maxRecDepth 100000 in
set_option maxHeartbeats 4000000 in
theorem w_X8_nightIncome_b18 {X : XT} {D : DT} {l : Launch} {L : LT} {a1 : Int32} {I : IT} {K : UInt32 → Prop} {KT : String → Prop} (hf : l.stackTraces = false) (hX : OK X D cX8_nightIncome "TeaHouse" 2) (hT : RT X l D (some .float) (P2 (Px (Pf L (fun x I' => I' = I ∧ K x)) L (fun E I' => I' = I ∧ KT E))) 6 1 6)   : ∀ {c w : Nat}, c + 1 ≤ 1 → w + 6 ≤ 6 → f_X8_nightIncome_b18 a1 I K KT  → J2 X D 2 c w I L 18 [.retAddr 0, .retAddr 0] [] := by
  have hR := hT.room
  intro c w hc hw h
  rw [f_X8_nightIncome_b18] at h
  exact q_throwSp hX hT hf th_226 (text := "the ledger has no such night") (code := 51) (by decide +kernel) dX8_nightIncome_18 dX8_nightIncome_21 dX8_nightIncome_22 dX8_nightIncome_24 dX8_nightIncome_27 (by decide) (by omega) h (by omega) (by omega)
set_option maxRecDepth 100000 in
set_option maxHeartbeats 4000000 in
theorem w_X8_nightIncome {l : Launch} {D : DT} {L : LT} {a1 : Int32} {I : IT} {K : UInt32 → Prop} {KT : String → Prop} (hf : l.stackTraces = false)  (h : f_X8_nightIncome a1 I K KT) : Con2 l D m_X8_nightIncome 6 [.ref 0, .int a1] 1 6 I L (Px (Pf L (fun x I' => I' = I ∧ K x)) L (fun E I' => I' = I ∧ KT E)) := by
  refine Con2.of (by decide +kernel) (by simp [Value.category]) (Nat.le_of_ble_eq_true rfl) (fun X hX hT => ?_)
  have hX : OK X D cX8_nightIncome "TeaHouse" 2 := hX
  have hT : RT X l D (some .float) (P2 (Px (Pf L (fun x I' => I' = I ∧ K x)) L (fun E I' => I' = I ∧ KT E))) 6 1 6 := hT
  have hR := hT.room
  change J2 X D 2 0 0 I L 0 [.ref 0, .int a1] []
  rw [f_X8_nightIncome] at h
  refine q_iload_n hX dX8_nightIncome_0 rfl ?_
  refine q_if_lt hX dX8_nightIncome_1 (tgt := 18) (by decide) (fun q1 => ?_) (fun q1 => ?_)
  · replace h := ite_t q1 h
    exact q_dr (w_X8_nightIncome_b18 hf hX hT     (by omega) (by omega)   h) ⟨Or.inr rfl, Or.inr rfl, trivial⟩
  · replace h := ite_f q1 h
    refine q_iload_n hX dX8_nightIncome_4 rfl ?_
    refine q_aload_n hX dX8_nightIncome_5 rfl ?_
    refine q_getR hX gf_X8_12 rfl dX8_nightIncome_6 (at_of (n := 0) rfl) (b := 1) rfl ?_
    refine q_getR hX gf_X8_216 rfl dX8_nightIncome_9 (at_of (n := 0) rfl) (b := 14) rfl ?_
    refine q_getI hX gf_X8_225 rfl dX8_nightIncome_12 (at_of (n := 0) rfl) ?_
    refine q_icmp_lt hX dX8_nightIncome_15 (tgt := 28) (by decide) (fun q2 => ?_) (fun q2 => ?_)
    · replace h := ite_t q2 h
      refine q_aload_n hX dX8_nightIncome_28 rfl ?_
      refine q_getR hX gf_X8_12 rfl dX8_nightIncome_29 (at_of (n := 0) rfl) (b := 1) rfl ?_
      refine q_getR hX gf_X8_216 rfl dX8_nightIncome_32 (at_of (n := 0) rfl) (b := 14) rfl ?_
      refine q_getR hX gf_X8_233 rfl dX8_nightIncome_35 (at_of (n := 0) rfl) (b := 15) rfl ?_
      refine q_iload_n hX dX8_nightIncome_38 rfl ?_
      obtain ⟨z3, h⟩ := h
      refine q_iald hX dX8_nightIncome_39 (at_of (a := 15) (t := 22) (n := 14) rfl) (inr_e z3) (inr_lt z3) (by decide) ?_
      refine q_S_fp hX hR (w_X8_eighths  h) lk_X8_99 dX8_nightIncome_40 rfl rfl (Nat.le_of_ble_eq_true rfl) (by omega) (by omega) (by omega) ?_
      intro x4 h
      exact q_x_fretp hX hT dX8_nightIncome_43 h (by omega) (by omega)
    · replace h := ite_f q2 h
      exact q_dr (w_X8_nightIncome_b18 hf hX hT     (by omega) (by omega)   h) ⟨Or.inr rfl, Or.inr rfl, trivial⟩
set_option maxRecDepth 100000 in
set_option maxHeartbeats 4000000 in
theorem w_X8_nightByIncome {l : Launch} {D : DT} {L : LT} {a1 : Int32} {I : IT} {K : Int32 → Prop} {KT : String → Prop} (hf : l.stackTraces = false)  (h : f_X8_nightByIncome a1 I K KT) : Con2 l D m_X8_nightByIncome 7 [.ref 0, .int a1] 1 6 I L (Px (Pi L (fun x I' => I' = I ∧ K x)) L (fun E I' => I' = I ∧ KT E)) := by
  refine Con2.of (by decide +kernel) (by simp [Value.category]) (Nat.le_of_ble_eq_true rfl) (fun X hX hT => ?_)
  have hX : OK X D cX8_nightByIncome "TeaHouse" 2 := hX
  have hT : RT X l D (some .int) (P2 (Px (Pi L (fun x I' => I' = I ∧ K x)) L (fun E I' => I' = I ∧ KT E))) 7 1 6 := hT
  have hR := hT.room
  change J2 X D 2 0 0 I L 0 [.ref 0, .int a1] []
  rw [f_X8_nightByIncome] at h
  refine q_aload_n hX dX8_nightByIncome_0 rfl ?_
  refine q_getR hX gf_X8_12 rfl dX8_nightByIncome_1 (at_of (n := 0) rfl) (b := 1) rfl ?_
  refine q_getR hX gf_X8_216 rfl dX8_nightByIncome_4 (at_of (n := 0) rfl) (b := 14) rfl ?_
  refine q_iload_n hX dX8_nightByIncome_7 rfl ?_
  refine q_V_ip hX hR (w_X4_ranked (led_n (a := 14) rfl) h) lk_X8_236 (rc2_of (ci := 7) rfl rfl) dX8_nightByIncome_8 rfl rfl (Nat.le_of_ble_eq_true rfl) (by omega) (by omega) (by omega) ?_
  intro x1 h
  refine q_S_ipx hX hR hT (w_X8_requireFound hf  h) lk_X8_151 dX8_nightByIncome_11 rfl rfl (Nat.le_of_ble_eq_true rfl) (by omega) (by omega) (by omega) (fun _ _ h => h) ?_
  intro x2 h
  exact q_x_iretp hX hT dX8_nightByIncome_14 h (by omega) (by omega)
set_option maxRecDepth 100000 in
set_option maxHeartbeats 4000000 in
theorem w_X8_requireNights {l : Launch} {D : DT} {L : LT} {a1 : Int32} {I : IT} {K : Prop} {KT : String → Prop} (hf : l.stackTraces = false)  (h : f_X8_requireNights a1 I K KT) : Con2 l D m_X8_requireNights 6 [.ref 0, .int a1] 1 6 I L (Px (Pv L (fun I' => I' = I ∧ K)) L (fun E I' => I' = I ∧ KT E)) := by
  refine Con2.of (by decide +kernel) (by simp [Value.category]) (Nat.le_of_ble_eq_true rfl) (fun X hX hT => ?_)
  have hX : OK X D cX8_requireNights "TeaHouse" 2 := hX
  have hT : RT X l D none (P2 (Px (Pv L (fun I' => I' = I ∧ K)) L (fun E I' => I' = I ∧ KT E))) 6 1 6 := hT
  have hR := hT.room
  change J2 X D 2 0 0 I L 0 [.ref 0, .int a1] []
  rw [f_X8_requireNights] at h
  refine q_iload_n hX dX8_requireNights_0 rfl ?_
  refine q_iconst hX dX8_requireNights_1 (v := (nI 1)) (by decide) ?_
  refine q_bipush hX dX8_requireNights_2 (v := (nI 14)) (by decide) ?_
  refine q_S_zp hX hR (w_X8_isWithin  h) lk_X8_407 dX8_requireNights_4 rfl rfl (Nat.le_of_ble_eq_true rfl) (by omega) (by omega) (by omega) ?_
  intro x1 hrx1 h
  refine q_if_ne hX dX8_requireNights_7 (tgt := 21) (by decide) (fun q2 => ?_) (fun q2 => ?_)
  · replace h := ite_f q2 h
    refine q_iload_n hX dX8_requireNights_21 rfl ?_
    refine q_aload_n hX dX8_requireNights_22 rfl ?_
    refine q_getR hX gf_X8_12 rfl dX8_requireNights_23 (at_of (n := 0) rfl) (b := 1) rfl ?_
    refine q_getR hX gf_X8_216 rfl dX8_requireNights_26 (at_of (n := 0) rfl) (b := 14) rfl ?_
    refine q_getI hX gf_X8_225 rfl dX8_requireNights_29 (at_of (n := 0) rfl) ?_
    refine q_icmp_le hX dX8_requireNights_32 (tgt := 46) (by decide) (fun q3 => ?_) (fun q3 => ?_)
    · replace h := ite_t q3 h
      exact q_x_vretp hX hT dX8_requireNights_46 h (by omega) (by omega)
    · replace h := ite_f q3 h
      exact q_throwWNp hX hT hf th_398 (text := "the ledger holds fewer nights") (code := 53) (by decide +kernel) dX8_requireNights_35 dX8_requireNights_38 dX8_requireNights_39 dX8_requireNights_42 dX8_requireNights_45 (by decide) (by omega) h (by omega) (by omega)
  · replace h := ite_t q2 h
    exact q_throwWp hX hT hf th_306 (text := "the number of nights is out of range") (code := 52) (by decide +kernel) dX8_requireNights_10 dX8_requireNights_13 dX8_requireNights_14 dX8_requireNights_17 dX8_requireNights_20 (by decide) (by omega) h (by omega) (by omega)
set_option maxRecDepth 100000 in
set_option maxHeartbeats 4000000 in
theorem w_X8_greatestIncome {l : Launch} {D : DT} {L : LT} {a1 : Int32} {I : IT} {K : UInt32 → Prop} {KT : String → Prop} (hf : l.stackTraces = false)  (h : f_X8_greatestIncome a1 I K KT) : Con2 l D m_X8_greatestIncome 7 [.ref 0, .int a1] 1 6 I L (Px (Pf L (fun x I' => I' = I ∧ K x)) L (fun E I' => I' = I ∧ KT E)) := by
  refine Con2.of (by decide +kernel) (by simp [Value.category]) (Nat.le_of_ble_eq_true rfl) (fun X hX hT => ?_)
  have hX : OK X D cX8_greatestIncome "TeaHouse" 2 := hX
  have hT : RT X l D (some .float) (P2 (Px (Pf L (fun x I' => I' = I ∧ K x)) L (fun E I' => I' = I ∧ KT E))) 7 1 6 := hT
  have hR := hT.room
  change J2 X D 2 0 0 I L 0 [.ref 0, .int a1] []
  rw [f_X8_greatestIncome] at h
  refine q_aload_n hX dX8_greatestIncome_0 rfl ?_
  refine q_iload_n hX dX8_greatestIncome_1 rfl ?_
  refine q_V_vpx hX hR hT (w_X8_requireNights hf  h) lk_X8_237 (rc2_of (ci := 9) rfl rfl) dX8_greatestIncome_2 rfl rfl (Nat.le_of_ble_eq_true rfl) (by omega) (by omega) (by omega) (fun _ _ h => h) ?_
  intro h
  refine q_aload_n hX dX8_greatestIncome_5 rfl ?_
  refine q_getR hX gf_X8_12 rfl dX8_greatestIncome_6 (at_of (n := 0) rfl) (b := 1) rfl ?_
  refine q_getR hX gf_X8_216 rfl dX8_greatestIncome_9 (at_of (n := 0) rfl) (b := 14) rfl ?_
  refine q_iload_n hX dX8_greatestIncome_12 rfl ?_
  refine q_V_ip hX hR (w_X4_greatestByAdding (led_n (a := 14) rfl) h) lk_X8_240 (rc2_of (ci := 7) rfl rfl) dX8_greatestIncome_13 rfl rfl (Nat.le_of_ble_eq_true rfl) (by omega) (by omega) (by omega) ?_
  intro x1 h
  refine q_S_fp hX hR (w_X8_eighths  h) lk_X8_99 dX8_greatestIncome_16 rfl rfl (Nat.le_of_ble_eq_true rfl) (by omega) (by omega) (by omega) ?_
  intro x2 h
  exact q_x_fretp hX hT dX8_greatestIncome_19 h (by omega) (by omega)
set_option maxRecDepth 100000 in
set_option maxHeartbeats 4000000 in
theorem w_X8_greatestIncomeBySums {l : Launch} {D : DT} {L : LT} {a1 : Int32} {I : IT} {K : UInt32 → Prop} {KT : String → Prop} (hf : l.stackTraces = false)  (h : f_X8_greatestIncomeBySums a1 I K KT) : Con2 l D m_X8_greatestIncomeBySums 7 [.ref 0, .int a1] 1 6 I L (Px (Pf L (fun x I' => I' = I ∧ K x)) L (fun E I' => I' = I ∧ KT E)) := by
  refine Con2.of (by decide +kernel) (by simp [Value.category]) (Nat.le_of_ble_eq_true rfl) (fun X hX hT => ?_)
  have hX : OK X D cX8_greatestIncomeBySums "TeaHouse" 2 := hX
  have hT : RT X l D (some .float) (P2 (Px (Pf L (fun x I' => I' = I ∧ K x)) L (fun E I' => I' = I ∧ KT E))) 7 1 6 := hT
  have hR := hT.room
  change J2 X D 2 0 0 I L 0 [.ref 0, .int a1] []
  rw [f_X8_greatestIncomeBySums] at h
  refine q_aload_n hX dX8_greatestIncomeBySums_0 rfl ?_
  refine q_iload_n hX dX8_greatestIncomeBySums_1 rfl ?_
  refine q_V_vpx hX hR hT (w_X8_requireNights hf  h) lk_X8_237 (rc2_of (ci := 9) rfl rfl) dX8_greatestIncomeBySums_2 rfl rfl (Nat.le_of_ble_eq_true rfl) (by omega) (by omega) (by omega) (fun _ _ h => h) ?_
  intro h
  refine q_aload_n hX dX8_greatestIncomeBySums_5 rfl ?_
  refine q_getR hX gf_X8_12 rfl dX8_greatestIncomeBySums_6 (at_of (n := 0) rfl) (b := 1) rfl ?_
  refine q_getR hX gf_X8_216 rfl dX8_greatestIncomeBySums_9 (at_of (n := 0) rfl) (b := 14) rfl ?_
  refine q_iload_n hX dX8_greatestIncomeBySums_12 rfl ?_
  refine q_V_ip hX hR (w_X4_greatestByDifferences (led_n (a := 14) rfl) h) lk_X8_243 (rc2_of (ci := 7) rfl rfl) dX8_greatestIncomeBySums_13 rfl rfl (Nat.le_of_ble_eq_true rfl) (by omega) (by omega) (by omega) ?_
  intro x1 h
  refine q_S_fp hX hR (w_X8_eighths  h) lk_X8_99 dX8_greatestIncomeBySums_16 rfl rfl (Nat.le_of_ble_eq_true rfl) (by omega) (by omega) (by omega) ?_
  intro x2 h
  exact q_x_fretp hX hT dX8_greatestIncomeBySums_19 h (by omega) (by omega)
set_option maxRecDepth 100000 in
set_option maxHeartbeats 4000000 in
theorem w_X8_totalIncome {l : Launch} {D : DT} {L : LT}  {I : IT} {K : UInt32 → Prop}  (h : f_X8_totalIncome  I K) : Con2 l D m_X8_totalIncome 2 [.ref 0] 0 0 I L (Pf L (fun x I' => I' = I ∧ K x)) := by
  refine Con2.of (by decide +kernel) (by simp [Value.category]) (Nat.le_of_ble_eq_true rfl) (fun X hX hT => ?_)
  have hX : OK X D cX8_totalIncome "TeaHouse" 1 := hX
  have hT : RT X l D (some .float) (P2 (Pf L (fun x I' => I' = I ∧ K x))) 2 0 0 := hT
  have hR := hT.room
  change J2 X D 1 0 0 I L 0 [.ref 0] []
  rw [f_X8_totalIncome] at h
  refine q_aload_n hX dX8_totalIncome_0 rfl ?_
  refine q_getR hX gf_X8_12 rfl dX8_totalIncome_1 (at_of (n := 0) rfl) (b := 1) rfl ?_
  refine q_getR hX gf_X8_216 rfl dX8_totalIncome_4 (at_of (n := 0) rfl) (b := 14) rfl ?_
  refine q_V_ip hX hR (w_X4_totalOfNights (led_n (a := 14) rfl) h) lk_X8_246 (rc2_of (ci := 7) rfl rfl) dX8_totalIncome_7 rfl rfl (Nat.le_of_ble_eq_true rfl) (by omega) (by omega) (by omega) ?_
  intro x1 h
  refine q_S_fp hX hR (w_X8_eighths  h) lk_X8_99 dX8_totalIncome_10 rfl rfl (Nat.le_of_ble_eq_true rfl) (by omega) (by omega) (by omega) ?_
  intro x2 h
  exact q_fretp hX hT dX8_totalIncome_13 h
set_option maxRecDepth 100000 in
set_option maxHeartbeats 4000000 in
theorem w_X8_totalIncomeBySales {l : Launch} {D : DT} {L : LT}  {I : IT} {K : UInt32 → Prop}  (h : f_X8_totalIncomeBySales  I K) : Con2 l D m_X8_totalIncomeBySales 2 [.ref 0] 0 0 I L (Pf L (fun x I' => I' = I ∧ K x)) := by
  refine Con2.of (by decide +kernel) (by simp [Value.category]) (Nat.le_of_ble_eq_true rfl) (fun X hX hT => ?_)
  have hX : OK X D cX8_totalIncomeBySales "TeaHouse" 1 := hX
  have hT : RT X l D (some .float) (P2 (Pf L (fun x I' => I' = I ∧ K x))) 2 0 0 := hT
  have hR := hT.room
  change J2 X D 1 0 0 I L 0 [.ref 0] []
  rw [f_X8_totalIncomeBySales] at h
  refine q_aload_n hX dX8_totalIncomeBySales_0 rfl ?_
  refine q_getR hX gf_X8_12 rfl dX8_totalIncomeBySales_1 (at_of (n := 0) rfl) (b := 1) rfl ?_
  refine q_getR hX gf_X8_216 rfl dX8_totalIncomeBySales_4 (at_of (n := 0) rfl) (b := 14) rfl ?_
  refine q_V_ip hX hR (w_X4_totalOfSales (led_n (a := 14) rfl) h) lk_X8_250 (rc2_of (ci := 7) rfl rfl) dX8_totalIncomeBySales_7 rfl rfl (Nat.le_of_ble_eq_true rfl) (by omega) (by omega) (by omega) ?_
  intro x1 h
  refine q_S_fp hX hR (w_X8_eighths  h) lk_X8_99 dX8_totalIncomeBySales_10 rfl rfl (Nat.le_of_ble_eq_true rfl) (by omega) (by omega) (by omega) ?_
  intro x2 h
  exact q_fretp hX hT dX8_totalIncomeBySales_13 h
set_option maxRecDepth 100000 in
set_option maxHeartbeats 4000000 in
theorem w_X8_servedOrders {l : Launch} {D : DT} {L : LT}  {I : IT} {K : Int32 → Prop}  (h : f_X8_servedOrders  I K) : Con2 l D m_X8_servedOrders 1 [.ref 0] 0 0 I L (Pi L (fun x I' => I' = I ∧ K x)) := by
  refine Con2.of (by decide +kernel) (by simp [Value.category]) (Nat.le_of_ble_eq_true rfl) (fun X hX hT => ?_)
  have hX : OK X D cX8_servedOrders "TeaHouse" 1 := hX
  have hT : RT X l D (some .int) (P2 (Pi L (fun x I' => I' = I ∧ K x))) 1 0 0 := hT
  have hR := hT.room
  change J2 X D 1 0 0 I L 0 [.ref 0] []
  rw [f_X8_servedOrders] at h
  refine q_aload_n hX dX8_servedOrders_0 rfl ?_
  refine q_getR hX gf_X8_12 rfl dX8_servedOrders_1 (at_of (n := 0) rfl) (b := 1) rfl ?_
  refine q_getI hX gf_X8_253 rfl dX8_servedOrders_4 (at_of (n := 0) rfl) ?_
  exact q_iretp hX hT dX8_servedOrders_7 h
set_option maxRecDepth 100000 in
set_option maxHeartbeats 4000000 in
theorem w_X8_whistlesHeard {l : Launch} {D : DT} {L : LT}  {I : IT} {K : Int32 → Prop}  (h : f_X8_whistlesHeard  I K) : Con2 l D m_X8_whistlesHeard 1 [.ref 0] 0 0 I L (Pi L (fun x I' => I' = I ∧ K x)) := by
  refine Con2.of (by decide +kernel) (by simp [Value.category]) (Nat.le_of_ble_eq_true rfl) (fun X hX hT => ?_)
  have hX : OK X D cX8_whistlesHeard "TeaHouse" 1 := hX
  have hT : RT X l D (some .int) (P2 (Pi L (fun x I' => I' = I ∧ K x))) 1 0 0 := hT
  have hR := hT.room
  change J2 X D 1 0 0 I L 0 [.ref 0] []
  rw [f_X8_whistlesHeard] at h
  refine q_aload_n hX dX8_whistlesHeard_0 rfl ?_
  refine q_getR hX gf_X8_12 rfl dX8_whistlesHeard_1 (at_of (n := 0) rfl) (b := 1) rfl ?_
  refine q_getI hX gf_X8_256 rfl dX8_whistlesHeard_4 (at_of (n := 0) rfl) ?_
  exact q_iretp hX hT dX8_whistlesHeard_7 h
set_option maxRecDepth 100000 in
set_option maxHeartbeats 4000000 in
theorem w_X8_whistlesLost {l : Launch} {D : DT} {L : LT}  {I : IT} {K : Int32 → Prop}  (h : f_X8_whistlesLost  I K) : Con2 l D m_X8_whistlesLost 1 [.ref 0] 0 0 I L (Pi L (fun x I' => I' = I ∧ K x)) := by
  refine Con2.of (by decide +kernel) (by simp [Value.category]) (Nat.le_of_ble_eq_true rfl) (fun X hX hT => ?_)
  have hX : OK X D cX8_whistlesLost "TeaHouse" 1 := hX
  have hT : RT X l D (some .int) (P2 (Pi L (fun x I' => I' = I ∧ K x))) 1 0 0 := hT
  have hR := hT.room
  change J2 X D 1 0 0 I L 0 [.ref 0] []
  rw [f_X8_whistlesLost] at h
  refine q_aload_n hX dX8_whistlesLost_0 rfl ?_
  refine q_getR hX gf_X8_12 rfl dX8_whistlesLost_1 (at_of (n := 0) rfl) (b := 1) rfl ?_
  refine q_getI hX gf_X8_259 rfl dX8_whistlesLost_4 (at_of (n := 0) rfl) ?_
  exact q_iretp hX hT dX8_whistlesLost_7 h
set_option maxRecDepth 100000 in
set_option maxHeartbeats 4000000 in
theorem w_X8_meanTemperature_b31 {X : XT} {D : DT} {l : Launch} {L : LT} {I : IT} {K : UInt64 → Prop} {KT : String → Prop} (hf : l.stackTraces = false) (hX : OK X D cX8_meanTemperature "TeaHouse" 5) (hT : RT X l D (some .double) (P2 (Px (Pd L (fun x I' => I' = I ∧ K x)) L (fun E I' => I' = I ∧ KT E))) 6 1 6)   : ∀ (n : Nat), ∀ {c w : Nat}, c + 0 ≤ 1 → w + 0 ≤ 6 → ∀ (v1 : Int32) (v2 : UInt64) (v4 : Int32), f_X8_meanTemperature_b31 I K KT n v1 v2 v4 → J2 X D 5 c w I L 31 [.ref 0, .int v1, .double v2, .retAddr 0, .int v4] [] := by
  have hR := hT.room
  intro n
  induction n with
  | zero => intro c w hc hw v1 v2 v4 h; exact False.elim h
  | succ n ih =>
    intro c w hc hw v1 v2 v4 h
    rw [f_X8_meanTemperature_b31] at h
    refine q_iload hX dX8_meanTemperature_31 rfl ?_
    refine q_iload_n hX dX8_meanTemperature_33 rfl ?_
    refine q_icmp_ge hX dX8_meanTemperature_34 (tgt := 63) (by decide) (fun q1 => ?_) (fun q1 => ?_)
    · replace h := ite_t q1 h
      refine q_dload_n hX dX8_meanTemperature_63 rfl ?_
      refine q_iload_n hX dX8_meanTemperature_64 rfl ?_
      refine q_i2d hX dX8_meanTemperature_65 ?_
      obtain ⟨z2, h⟩ := h
      refine q_ddiv hX dX8_meanTemperature_66 z2 ?_
      exact q_x_dretp hX hT dX8_meanTemperature_67 h (by omega) (by omega)
    · replace h := ite_f q1 h
      refine q_dload_n hX dX8_meanTemperature_37 rfl ?_
      refine q_aload_n hX dX8_meanTemperature_38 rfl ?_
      refine q_getR hX gf_X8_12 rfl dX8_meanTemperature_39 (at_of (n := 0) rfl) (b := 1) rfl ?_
      refine q_getR hX gf_X8_117 rfl dX8_meanTemperature_42 (at_of (n := 0) rfl) (b := 2) rfl ?_
      refine q_getR hX gf_X8_134 rfl dX8_meanTemperature_45 (at_of (n := 0) rfl) (b := 5) rfl ?_
      refine q_iload hX dX8_meanTemperature_48 rfl ?_
      obtain ⟨z3, h⟩ := h
      refine q_iald hX dX8_meanTemperature_50 (at_of (a := 5) (t := 22) (n := 4) rfl) (inr_e z3) (inr_lt z3) (by decide) ?_
      refine q_S_fp hX hR (w_X8_halves  h) lk_X8_77 dX8_meanTemperature_51 rfl rfl (Nat.le_of_ble_eq_true rfl) (by omega) (by omega) (by omega) ?_
      intro x4 h
      obtain ⟨z5, h⟩ := h
      refine q_f2d hX dX8_meanTemperature_54 z5 ?_
      obtain ⟨z6, h⟩ := h
      refine q_dadd hX dX8_meanTemperature_55 z6 ?_
      refine q_dstore_n hX dX8_meanTemperature_56 (by decide) (ls' := [_, _, _, _, _]) rfl ?_
      replace h := bnd_e h
      refine q_iinc hX dX8_meanTemperature_57 (by decide) rfl (v := _ + nI 1) (ls' := [_, _, _, _, _]) rfl rfl ?_
      refine q_goto hX dX8_meanTemperature_60 (tgt := 31) (by decide) ?_
      exact q_dr (ih (by omega) (by omega) _ _ _  h) ⟨Or.inl rfl, Or.inl rfl, Or.inl rfl, Or.inl rfl, Or.inl rfl, trivial⟩
set_option maxRecDepth 100000 in
set_option maxHeartbeats 4000000 in
theorem w_X8_meanTemperature {l : Launch} {D : DT} {L : LT}  {I : IT} {K : UInt64 → Prop} {KT : String → Prop} (hf : l.stackTraces = false)  (h : f_X8_meanTemperature  I K KT) : Con2 l D m_X8_meanTemperature 6 [.ref 0] 1 6 I L (Px (Pd L (fun x I' => I' = I ∧ K x)) L (fun E I' => I' = I ∧ KT E)) := by
  refine Con2.of (by decide +kernel) (by simp [Value.category]) (Nat.le_of_ble_eq_true rfl) (fun X hX hT => ?_)
  have hX : OK X D cX8_meanTemperature "TeaHouse" 5 := hX
  have hT : RT X l D (some .double) (P2 (Px (Pd L (fun x I' => I' = I ∧ K x)) L (fun E I' => I' = I ∧ KT E))) 6 1 6 := hT
  have hR := hT.room
  change J2 X D 5 0 0 I L 0 [.ref 0, .retAddr 0, .retAddr 0, .retAddr 0, .retAddr 0] []
  rw [f_X8_meanTemperature] at h
  refine q_aload_n hX dX8_meanTemperature_0 rfl ?_
  refine q_getR hX gf_X8_12 rfl dX8_meanTemperature_1 (at_of (n := 0) rfl) (b := 1) rfl ?_
  refine q_getR hX gf_X8_117 rfl dX8_meanTemperature_4 (at_of (n := 0) rfl) (b := 2) rfl ?_
  refine q_getI hX gf_X8_120 rfl dX8_meanTemperature_7 (at_of (n := 0) rfl) ?_
  replace h := bnd_e h
  refine q_istore_n hX dX8_meanTemperature_10 (by decide) (ls' := [_, _, _, _, _]) rfl ?_
  refine q_iload_n hX dX8_meanTemperature_11 rfl ?_
  refine q_if_gt hX dX8_meanTemperature_12 (tgt := 26) (by decide) (fun q2 => ?_) (fun q2 => ?_)
  · replace h := ite_t q2 h
    refine q_dconst0 hX dX8_meanTemperature_26 ?_
    refine q_dstore_n hX dX8_meanTemperature_27 (by decide) (ls' := [_, _, _, _, _]) rfl ?_
    refine q_iconst hX dX8_meanTemperature_28 (v := (nI 0)) (by decide) ?_
    refine q_istore hX dX8_meanTemperature_29 (by decide) (ls' := [_, _, _, _, _]) rfl ?_
    exact q_dr (w_X8_meanTemperature_b31 hf hX hT    _  (by omega) (by omega) _ _ _  h) ⟨Or.inl rfl, Or.inl rfl, Or.inl rfl, Or.inl rfl, Or.inl rfl, trivial⟩
  · replace h := ite_f q2 h
    exact q_throwWp hX hT hf th_262 (text := "there are no kettles") (code := 54) (by decide +kernel) dX8_meanTemperature_15 dX8_meanTemperature_18 dX8_meanTemperature_19 dX8_meanTemperature_22 dX8_meanTemperature_25 (by decide) (by omega) h (by omega) (by omega)
set_option maxRecDepth 100000 in
set_option maxHeartbeats 4000000 in
theorem w_X8_lostShare {l : Launch} {D : DT} {L : LT}  {I : IT} {K : UInt32 → Prop} {KT : String → Prop} (hf : l.stackTraces = false)  (h : f_X8_lostShare  I K KT) : Con2 l D m_X8_lostShare 6 [.ref 0] 1 6 I L (Px (Pf L (fun x I' => I' = I ∧ K x)) L (fun E I' => I' = I ∧ KT E)) := by
  refine Con2.of (by decide +kernel) (by simp [Value.category]) (Nat.le_of_ble_eq_true rfl) (fun X hX hT => ?_)
  have hX : OK X D cX8_lostShare "TeaHouse" 2 := hX
  have hT : RT X l D (some .float) (P2 (Px (Pf L (fun x I' => I' = I ∧ K x)) L (fun E I' => I' = I ∧ KT E))) 6 1 6 := hT
  have hR := hT.room
  change J2 X D 2 0 0 I L 0 [.ref 0, .retAddr 0] []
  rw [f_X8_lostShare] at h
  refine q_aload_n hX dX8_lostShare_0 rfl ?_
  refine q_getR hX gf_X8_12 rfl dX8_lostShare_1 (at_of (n := 0) rfl) (b := 1) rfl ?_
  refine q_getI hX gf_X8_256 rfl dX8_lostShare_4 (at_of (n := 0) rfl) ?_
  refine q_aload_n hX dX8_lostShare_7 rfl ?_
  refine q_getR hX gf_X8_12 rfl dX8_lostShare_8 (at_of (n := 0) rfl) (b := 1) rfl ?_
  refine q_getI hX gf_X8_259 rfl dX8_lostShare_11 (at_of (n := 0) rfl) ?_
  refine q_iadd hX dX8_lostShare_14 ?_
  replace h := bnd_e h
  refine q_istore_n hX dX8_lostShare_15 (by decide) (ls' := [_, _]) rfl ?_
  refine q_iload_n hX dX8_lostShare_16 rfl ?_
  refine q_if_gt hX dX8_lostShare_17 (tgt := 31) (by decide) (fun q2 => ?_) (fun q2 => ?_)
  · replace h := ite_t q2 h
    refine q_aload_n hX dX8_lostShare_31 rfl ?_
    refine q_getR hX gf_X8_12 rfl dX8_lostShare_32 (at_of (n := 0) rfl) (b := 1) rfl ?_
    refine q_getI hX gf_X8_259 rfl dX8_lostShare_35 (at_of (n := 0) rfl) ?_
    refine q_i2f hX dX8_lostShare_38 ?_
    refine q_iload_n hX dX8_lostShare_39 rfl ?_
    refine q_i2f hX dX8_lostShare_40 ?_
    obtain ⟨z3, h⟩ := h
    refine q_fdiv hX dX8_lostShare_41 z3 ?_
    exact q_x_fretp hX hT dX8_lostShare_42 h (by omega) (by omega)
  · replace h := ite_f q2 h
    exact q_throwWp hX hT hf th_262 (text := "there were no whistles") (code := 55) (by decide +kernel) dX8_lostShare_20 dX8_lostShare_23 dX8_lostShare_24 dX8_lostShare_27 dX8_lostShare_30 (by decide) (by omega) h (by omega) (by omega)
set_option maxRecDepth 100000 in
set_option maxHeartbeats 4000000 in
theorem w_X8_allHeatingTimesAgree_b2 {X : XT} {D : DT} {l : Launch} {L : LT} {K : Int32 → IT → Prop} (hX : OK X D cX8_allHeatingTimesAgree "TeaHouse" 2) (hT : RT X l D (some .boolean) (P2 (Pz L K)) 5 0 0)   : ∀ (n : Nat), ∀ (v1 : Int32) (I : IT), f_X8_allHeatingTimesAgree_b2 K n v1 I → J2 X D 2 0 0 I L 2 [.ref 0, .int v1] [] := by
  have hR := hT.room
  intro n
  induction n with
  | zero => intro v1 I h; exact False.elim h
  | succ n ih =>
    intro v1 I h
    rw [f_X8_allHeatingTimesAgree_b2] at h
    refine q_iload_n hX dX8_allHeatingTimesAgree_2 rfl ?_
    refine q_aload_n hX dX8_allHeatingTimesAgree_3 rfl ?_
    refine q_getR hX gf_X8_12 rfl dX8_allHeatingTimesAgree_4 (at_of (n := 0) rfl) (b := 1) rfl ?_
    refine q_getR hX gf_X8_117 rfl dX8_allHeatingTimesAgree_7 (at_of (n := 0) rfl) (b := 2) rfl ?_
    refine q_getI hX gf_X8_120 rfl dX8_allHeatingTimesAgree_10 (at_of (n := 0) rfl) ?_
    refine q_icmp_ge hX dX8_allHeatingTimesAgree_13 (tgt := 43) (by decide) (fun q1 => ?_) (fun q1 => ?_)
    · replace h := ite_t q1 h
      refine q_iconst hX dX8_allHeatingTimesAgree_43 (v := (nI 1)) (by decide) ?_
      exact q_zret hX hT dX8_allHeatingTimesAgree_44 (Or.inr rfl) h
    · replace h := ite_f q1 h
      refine q_aload_n hX dX8_allHeatingTimesAgree_16 rfl ?_
      refine q_getR hX gf_X8_12 rfl dX8_allHeatingTimesAgree_17 (at_of (n := 0) rfl) (b := 1) rfl ?_
      refine q_getR hX gf_X8_117 rfl dX8_allHeatingTimesAgree_20 (at_of (n := 0) rfl) (b := 2) rfl ?_
      refine q_iload_n hX dX8_allHeatingTimesAgree_23 rfl ?_
      refine q_V_ip hX hR (w_X3_heatingTime (ket_n (a := 2) rfl) h) lk_X8_148 (rc2_of (ci := 6) rfl rfl) dX8_allHeatingTimesAgree_24 rfl rfl (Nat.le_of_ble_eq_true rfl) (by omega) (by omega) (by omega) ?_
      intro x2 h
      refine q_aload_n hX dX8_allHeatingTimesAgree_27 rfl ?_
      refine q_iload_n hX dX8_allHeatingTimesAgree_28 rfl ?_
      refine q_V_i hX hR (w_X8_heatingTimeOnCopy  h) lk_X8_154 (rc2_of (ci := 9) rfl rfl) dX8_allHeatingTimesAgree_29 rfl rfl (Nat.le_of_ble_eq_true rfl) (by omega) (by omega) (by omega) ?_
      intro x3 I4 h
      refine q_icmp_eq hX dX8_allHeatingTimesAgree_32 (tgt := 37) (by decide) (fun q5 => ?_) (fun q5 => ?_)
      · replace h := ite_t q5 h
        replace h := bnd_e h
        refine q_iinc hX dX8_allHeatingTimesAgree_37 (by decide) rfl (v := _ + nI 1) (ls' := [_, _]) rfl rfl ?_
        refine q_goto hX dX8_allHeatingTimesAgree_40 (tgt := 2) (by decide) ?_
        exact q_dr (ih _ _  h) ⟨Or.inl rfl, Or.inl rfl, trivial⟩
      · replace h := ite_f q5 h
        refine q_iconst hX dX8_allHeatingTimesAgree_35 (v := (nI 0)) (by decide) ?_
        exact q_zret hX hT dX8_allHeatingTimesAgree_36 (Or.inl rfl) h
set_option maxRecDepth 100000 in
set_option maxHeartbeats 4000000 in
theorem w_X8_allHeatingTimesAgree {l : Launch} {D : DT} {L : LT}  {I : IT} {K : Int32 → IT → Prop}  (h : f_X8_allHeatingTimesAgree  I K) : Con2 l D m_X8_allHeatingTimesAgree 5 [.ref 0] 0 0 I L (Pz L K) := by
  refine Con2.of (by decide +kernel) (by simp [Value.category]) (Nat.le_of_ble_eq_true rfl) (fun X hX hT => ?_)
  have hX : OK X D cX8_allHeatingTimesAgree "TeaHouse" 2 := hX
  have hT : RT X l D (some .boolean) (P2 (Pz L K)) 5 0 0 := hT
  have hR := hT.room
  change J2 X D 2 0 0 I L 0 [.ref 0, .retAddr 0] []
  rw [f_X8_allHeatingTimesAgree] at h
  refine q_iconst hX dX8_allHeatingTimesAgree_0 (v := (nI 0)) (by decide) ?_
  refine q_istore_n hX dX8_allHeatingTimesAgree_1 (by decide) (ls' := [_, _]) rfl ?_
  exact q_dr (w_X8_allHeatingTimesAgree_b2 hX hT   _  _ _  h) ⟨Or.inl rfl, Or.inl rfl, trivial⟩
set_option maxRecDepth 100000 in
set_option maxHeartbeats 4000000 in
theorem w_X8_floatOfBits_b22 {X : XT} {D : DT} {l : Launch} {L : LT} {a0 : Int32} {I : IT} {K : UInt32 → Prop} (hX : OK X D cX8_floatOfBits "TeaHouse" 4) (hT : RT X l D (some .float) (P2 (Pf L (fun x I' => I' = I ∧ K x))) 1 0 0)   : ∀ (n : Nat), ∀ (v1 : UInt32) (v2 : Int32) (v3 : Int32), f_X8_floatOfBits_b22 a0 I K n v1 v2 v3 → J2 X D 4 0 0 I L 22 [.retAddr 0, .float v1, .int v2, .int v3] [] := by
  have hR := hT.room
  intro n
  induction n with
  | zero => intro v1 v2 v3 h; exact False.elim h
  | succ n ih =>
    intro v1 v2 v3 h
    rw [f_X8_floatOfBits_b22] at h
    refine q_iload_n hX dX8_floatOfBits_22 rfl ?_
    refine q_iload_n hX dX8_floatOfBits_23 rfl ?_
    refine q_icmp_le hX dX8_floatOfBits_24 (tgt := 43) (by decide) (fun q1 => ?_) (fun q1 => ?_)
    · replace h := ite_t q1 h
      refine q_fload_n hX dX8_floatOfBits_43 rfl ?_
      exact q_fretp hX hT dX8_floatOfBits_44 h
    · replace h := ite_f q1 h
      refine q_iload_n hX dX8_floatOfBits_27 rfl ?_
      refine q_if_le hX dX8_floatOfBits_28 (tgt := 43) (by decide) (fun q2 => ?_) (fun q2 => ?_)
      · replace h := ite_t q2 h
        refine q_fload_n hX dX8_floatOfBits_43 rfl ?_
        exact q_fretp hX hT dX8_floatOfBits_44 h
      · replace h := ite_f q2 h
        refine q_fload_n hX dX8_floatOfBits_31 rfl ?_
        refine q_ldcfw hX kc_X8_418 dX8_floatOfBits_32 ?_
        obtain ⟨z3, h⟩ := h
        refine q_fmul hX dX8_floatOfBits_35 z3 ?_
        refine q_fstore_n hX dX8_floatOfBits_36 (by decide) (ls' := [_, _, _, _]) rfl ?_
        replace h := bnd_e h
        refine q_iinc hX dX8_floatOfBits_37 (by decide) rfl (v := _ + (-1)) (ls' := [_, _, _, _]) (iinc_m _ (by decide)) rfl ?_
        refine q_goto hX dX8_floatOfBits_40 (tgt := 22) (by decide) ?_
        exact q_dr (ih _ _ _  h) ⟨Or.inl rfl, Or.inl rfl, Or.inl rfl, Or.inl rfl, trivial⟩
set_option maxRecDepth 100000 in
set_option maxHeartbeats 4000000 in
theorem w_X8_floatOfBits {l : Launch} {D : DT} {L : LT} {a0 : Int32} {I : IT} {K : UInt32 → Prop}  (h : f_X8_floatOfBits a0 I K) : Con2 l D m_X8_floatOfBits 1 [.int a0] 0 0 I L (Pf L (fun x I' => I' = I ∧ K x)) := by
  refine Con2.of (by decide +kernel) (by simp [Value.category]) (Nat.le_of_ble_eq_true rfl) (fun X hX hT => ?_)
  have hX : OK X D cX8_floatOfBits "TeaHouse" 4 := hX
  have hT : RT X l D (some .float) (P2 (Pf L (fun x I' => I' = I ∧ K x))) 1 0 0 := hT
  have hR := hT.room
  change J2 X D 4 0 0 I L 0 [.int a0, .retAddr 0, .retAddr 0, .retAddr 0] []
  rw [f_X8_floatOfBits] at h
  refine q_iload_n hX dX8_floatOfBits_0 rfl ?_
  refine q_ldcw hX (v := (nI 8388607)) kc_X8_419 dX8_floatOfBits_1 ?_
  refine q_iand hX dX8_floatOfBits_4 ?_
  refine q_ldcw hX (v := (nI 8388608)) kc_X8_420 dX8_floatOfBits_5 ?_
  refine q_ior hX dX8_floatOfBits_8 ?_
  refine q_i2f hX dX8_floatOfBits_9 ?_
  refine q_fstore_n hX dX8_floatOfBits_10 (by decide) (ls' := [_, _, _, _]) rfl ?_
  refine q_iload_n hX dX8_floatOfBits_11 rfl ?_
  refine q_bipush hX dX8_floatOfBits_12 (v := (nI 23)) (by decide) ?_
  refine q_ishr hX dX8_floatOfBits_14 ?_
  refine q_bipush hX dX8_floatOfBits_15 (v := (nI 127)) (by decide) ?_
  refine q_isub hX dX8_floatOfBits_17 ?_
  replace h := bnd_e h
  refine q_istore_n hX dX8_floatOfBits_18 (by decide) (ls' := [_, _, _, _]) rfl ?_
  refine q_bipush hX dX8_floatOfBits_19 (v := (nI 23)) (by decide) ?_
  refine q_istore_n hX dX8_floatOfBits_21 (by decide) (ls' := [_, _, _, _]) rfl ?_
  exact q_dr (w_X8_floatOfBits_b22 hX hT   _  _ _ _  h) ⟨Or.inr rfl, Or.inl rfl, Or.inl rfl, Or.inl rfl, trivial⟩
set_option maxRecDepth 100000 in
set_option maxHeartbeats 4000000 in
theorem w_X8_allTemperatureBitsFit_b2 {X : XT} {D : DT} {l : Launch} {L : LT} {I : IT} {K : Int32 → Prop} (hX : OK X D cX8_allTemperatureBitsFit "TeaHouse" 3) (hT : RT X l D (some .boolean) (P2 (Pz L (fun x I' => I' = I ∧ K x))) 2 0 0)   : ∀ (n : Nat), ∀ (v1 : Int32), f_X8_allTemperatureBitsFit_b2 I K n v1 → J2 X D 3 0 0 I L 2 [.ref 0, .int v1, .retAddr 0] [] := by
  have hR := hT.room
  intro n
  induction n with
  | zero => intro v1 h; exact False.elim h
  | succ n ih =>
    intro v1 h
    rw [f_X8_allTemperatureBitsFit_b2] at h
    refine q_iload_n hX dX8_allTemperatureBitsFit_2 rfl ?_
    refine q_aload_n hX dX8_allTemperatureBitsFit_3 rfl ?_
    refine q_getR hX gf_X8_12 rfl dX8_allTemperatureBitsFit_4 (at_of (n := 0) rfl) (b := 1) rfl ?_
    refine q_getR hX gf_X8_117 rfl dX8_allTemperatureBitsFit_7 (at_of (n := 0) rfl) (b := 2) rfl ?_
    refine q_getI hX gf_X8_120 rfl dX8_allTemperatureBitsFit_10 (at_of (n := 0) rfl) ?_
    refine q_icmp_ge hX dX8_allTemperatureBitsFit_13 (tgt := 52) (by decide) (fun q1 => ?_) (fun q1 => ?_)
    · replace h := ite_t q1 h
      refine q_iconst hX dX8_allTemperatureBitsFit_52 (v := (nI 1)) (by decide) ?_
      exact q_zretp hX hT dX8_allTemperatureBitsFit_53 (Or.inr rfl) h
    · replace h := ite_f q1 h
      refine q_aload_n hX dX8_allTemperatureBitsFit_16 rfl ?_
      refine q_getR hX gf_X8_12 rfl dX8_allTemperatureBitsFit_17 (at_of (n := 0) rfl) (b := 1) rfl ?_
      refine q_getR hX gf_X8_117 rfl dX8_allTemperatureBitsFit_20 (at_of (n := 0) rfl) (b := 2) rfl ?_
      refine q_getR hX gf_X8_134 rfl dX8_allTemperatureBitsFit_23 (at_of (n := 0) rfl) (b := 5) rfl ?_
      refine q_iload_n hX dX8_allTemperatureBitsFit_26 rfl ?_
      obtain ⟨z2, h⟩ := h
      refine q_iald hX dX8_allTemperatureBitsFit_27 (at_of (a := 5) (t := 22) (n := 4) rfl) (inr_e z2) (inr_lt z2) (by decide) ?_
      replace h := bnd_e h
      refine q_istore_n hX dX8_allTemperatureBitsFit_28 (by decide) (ls' := [_, _, _]) rfl ?_
      refine q_iload_n hX dX8_allTemperatureBitsFit_29 rfl ?_
      refine q_S_ip hX hR (w_X8_bitsOfHalves  h) lk_X8_137 dX8_allTemperatureBitsFit_30 rfl rfl (Nat.le_of_ble_eq_true rfl) (by omega) (by omega) (by omega) ?_
      intro x4 h
      refine q_S_fp hX hR (w_X8_floatOfBits  h) lk_X8_377 dX8_allTemperatureBitsFit_33 rfl rfl (Nat.le_of_ble_eq_true rfl) (by omega) (by omega) (by omega) ?_
      intro x5 h
      refine q_iload_n hX dX8_allTemperatureBitsFit_36 rfl ?_
      refine q_S_fp hX hR (w_X8_halves  h) lk_X8_77 dX8_allTemperatureBitsFit_37 rfl rfl (Nat.le_of_ble_eq_true rfl) (by omega) (by omega) (by omega) ?_
      intro x6 h
      refine q_fcmp hX dX8_allTemperatureBitsFit_40 ?_
      refine q_if_eq hX dX8_allTemperatureBitsFit_41 (tgt := 46) (by decide) (fun q7 => ?_) (fun q7 => ?_)
      · replace h := ite_t q7 h
        replace h := bnd_e h
        refine q_iinc hX dX8_allTemperatureBitsFit_46 (by decide) rfl (v := _ + nI 1) (ls' := [_, _, _]) rfl rfl ?_
        refine q_goto hX dX8_allTemperatureBitsFit_49 (tgt := 2) (by decide) ?_
        exact q_dr (ih _  h) ⟨Or.inl rfl, Or.inl rfl, Or.inr rfl, trivial⟩
      · replace h := ite_f q7 h
        refine q_iconst hX dX8_allTemperatureBitsFit_44 (v := (nI 0)) (by decide) ?_
        exact q_zretp hX hT dX8_allTemperatureBitsFit_45 (Or.inl rfl) h
set_option maxRecDepth 100000 in
set_option maxHeartbeats 4000000 in
theorem w_X8_allTemperatureBitsFit {l : Launch} {D : DT} {L : LT}  {I : IT} {K : Int32 → Prop}  (h : f_X8_allTemperatureBitsFit  I K) : Con2 l D m_X8_allTemperatureBitsFit 2 [.ref 0] 0 0 I L (Pz L (fun x I' => I' = I ∧ K x)) := by
  refine Con2.of (by decide +kernel) (by simp [Value.category]) (Nat.le_of_ble_eq_true rfl) (fun X hX hT => ?_)
  have hX : OK X D cX8_allTemperatureBitsFit "TeaHouse" 3 := hX
  have hT : RT X l D (some .boolean) (P2 (Pz L (fun x I' => I' = I ∧ K x))) 2 0 0 := hT
  have hR := hT.room
  change J2 X D 3 0 0 I L 0 [.ref 0, .retAddr 0, .retAddr 0] []
  rw [f_X8_allTemperatureBitsFit] at h
  refine q_iconst hX dX8_allTemperatureBitsFit_0 (v := (nI 0)) (by decide) ?_
  refine q_istore_n hX dX8_allTemperatureBitsFit_1 (by decide) (ls' := [_, _, _]) rfl ?_
  exact q_dr (w_X8_allTemperatureBitsFit_b2 hX hT   _  _  h) ⟨Or.inl rfl, Or.inl rfl, Or.inl rfl, trivial⟩
set_option maxRecDepth 100000 in
set_option maxHeartbeats 4000000 in
theorem w_X8_isBalanced {l : Launch} {D : DT} {L : LT}  {I : IT} {K : Int32 → IT → Prop}  (h : f_X8_isBalanced  I K) : Con2 l D m_X8_isBalanced 6 [.ref 0] 0 0 I L (Pz L K) := by
  refine Con2.of (by decide +kernel) (by simp [Value.category]) (Nat.le_of_ble_eq_true rfl) (fun X hX hT => ?_)
  have hX : OK X D cX8_isBalanced "TeaHouse" 1 := hX
  have hT : RT X l D (some .boolean) (P2 (Pz L K)) 6 0 0 := hT
  have hR := hT.room
  change J2 X D 1 0 0 I L 0 [.ref 0] []
  rw [f_X8_isBalanced] at h
  refine q_aload_n hX dX8_isBalanced_0 rfl ?_
  refine q_getR hX gf_X8_12 rfl dX8_isBalanced_1 (at_of (n := 0) rfl) (b := 1) rfl ?_
  refine q_getI hX gf_X8_210 rfl dX8_isBalanced_4 (at_of (n := 0) rfl) ?_
  refine q_aload_n hX dX8_isBalanced_7 rfl ?_
  refine q_getR hX gf_X8_12 rfl dX8_isBalanced_8 (at_of (n := 0) rfl) (b := 1) rfl ?_
  refine q_getR hX gf_X8_117 rfl dX8_isBalanced_11 (at_of (n := 0) rfl) (b := 2) rfl ?_
  refine q_V_ip hX hR (w_X3_totalVolume (ket_n (a := 2) rfl) h) lk_X8_269 (rc2_of (ci := 6) rfl rfl) dX8_isBalanced_14 rfl rfl (Nat.le_of_ble_eq_true rfl) (by omega) (by omega) (by omega) ?_
  intro x1 h
  refine q_aload_n hX dX8_isBalanced_17 rfl ?_
  refine q_getR hX gf_X8_12 rfl dX8_isBalanced_18 (at_of (n := 0) rfl) (b := 1) rfl ?_
  refine q_getI hX gf_X8_207 rfl dX8_isBalanced_21 (at_of (n := 0) rfl) ?_
  refine q_iadd hX dX8_isBalanced_24 ?_
  refine q_aload_n hX dX8_isBalanced_25 rfl ?_
  refine q_getR hX gf_X8_12 rfl dX8_isBalanced_26 (at_of (n := 0) rfl) (b := 1) rfl ?_
  refine q_getI hX gf_X8_205 rfl dX8_isBalanced_29 (at_of (n := 0) rfl) ?_
  refine q_iadd hX dX8_isBalanced_32 ?_
  refine q_icmp_ne hX dX8_isBalanced_33 (tgt := 110) (by decide) (fun q2 => ?_) (fun q2 => ?_)
  · replace h := ite_f q2 h
    refine q_iconst hX dX8_isBalanced_110 (v := (nI 0)) (by decide) ?_
    exact q_zret hX hT dX8_isBalanced_111 (Or.inl rfl) h
  · replace h := ite_t q2 h
    refine q_aload_n hX dX8_isBalanced_36 rfl ?_
    refine q_getR hX gf_X8_12 rfl dX8_isBalanced_37 (at_of (n := 0) rfl) (b := 1) rfl ?_
    refine q_getI hX gf_X8_202 rfl dX8_isBalanced_40 (at_of (n := 0) rfl) ?_
    refine q_aload_n hX dX8_isBalanced_43 rfl ?_
    refine q_getR hX gf_X8_12 rfl dX8_isBalanced_44 (at_of (n := 0) rfl) (b := 1) rfl ?_
    refine q_getI hX gf_X8_205 rfl dX8_isBalanced_47 (at_of (n := 0) rfl) ?_
    refine q_icmp_gt hX dX8_isBalanced_50 (tgt := 110) (by decide) (fun q3 => ?_) (fun q3 => ?_)
    · replace h := ite_t q3 h
      refine q_iconst hX dX8_isBalanced_110 (v := (nI 0)) (by decide) ?_
      exact q_zret hX hT dX8_isBalanced_111 (Or.inl rfl) h
    · replace h := ite_f q3 h
      refine q_aload_n hX dX8_isBalanced_53 rfl ?_
      refine q_getR hX gf_X8_12 rfl dX8_isBalanced_54 (at_of (n := 0) rfl) (b := 1) rfl ?_
      refine q_getR hX gf_X8_216 rfl dX8_isBalanced_57 (at_of (n := 0) rfl) (b := 14) rfl ?_
      refine q_V_zp hX hR (w_X4_isConsistent (led_n (a := 14) rfl) h) lk_X8_272 (rc2_of (ci := 7) rfl rfl) dX8_isBalanced_60 rfl rfl (Nat.le_of_ble_eq_true rfl) (by omega) (by omega) (by omega) ?_
      intro x4 hrx4 h
      refine q_if_eq hX dX8_isBalanced_63 (tgt := 110) (by decide) (fun q5 => ?_) (fun q5 => ?_)
      · replace h := ite_t q5 h
        refine q_iconst hX dX8_isBalanced_110 (v := (nI 0)) (by decide) ?_
        exact q_zret hX hT dX8_isBalanced_111 (Or.inl rfl) h
      · replace h := ite_f q5 h
        refine q_aload_n hX dX8_isBalanced_66 rfl ?_
        refine q_getR hX gf_X8_12 rfl dX8_isBalanced_67 (at_of (n := 0) rfl) (b := 1) rfl ?_
        refine q_getR hX gf_X8_160 rfl dX8_isBalanced_70 (at_of (n := 0) rfl) (b := 8) rfl ?_
        refine q_V_zp hX hR (w_X5_isConsistent (ord_n (a := 8) rfl) h) lk_X8_276 (rc2_of (ci := 8) rfl rfl) dX8_isBalanced_73 rfl rfl (Nat.le_of_ble_eq_true rfl) (by omega) (by omega) (by omega) ?_
        intro x6 hrx6 h
        refine q_if_eq hX dX8_isBalanced_76 (tgt := 110) (by decide) (fun q7 => ?_) (fun q7 => ?_)
        · replace h := ite_t q7 h
          refine q_iconst hX dX8_isBalanced_110 (v := (nI 0)) (by decide) ?_
          exact q_zret hX hT dX8_isBalanced_111 (Or.inl rfl) h
        · replace h := ite_f q7 h
          refine q_aload_n hX dX8_isBalanced_79 rfl ?_
          refine q_getR hX gf_X8_12 rfl dX8_isBalanced_80 (at_of (n := 0) rfl) (b := 1) rfl ?_
          refine q_getR hX gf_X8_117 rfl dX8_isBalanced_83 (at_of (n := 0) rfl) (b := 2) rfl ?_
          refine q_V_zp hX hR (w_X3_isRankedOnceEach (ket_n (a := 2) rfl) h) lk_X8_277 (rc2_of (ci := 6) rfl rfl) dX8_isBalanced_86 rfl rfl (Nat.le_of_ble_eq_true rfl) (by omega) (by omega) (by omega) ?_
          intro x8 hrx8 h
          refine q_if_eq hX dX8_isBalanced_89 (tgt := 110) (by decide) (fun q9 => ?_) (fun q9 => ?_)
          · replace h := ite_t q9 h
            refine q_iconst hX dX8_isBalanced_110 (v := (nI 0)) (by decide) ?_
            exact q_zret hX hT dX8_isBalanced_111 (Or.inl rfl) h
          · replace h := ite_f q9 h
            refine q_aload_n hX dX8_isBalanced_92 rfl ?_
            refine q_V_zp hX hR (w_X8_allTemperatureBitsFit  h) lk_X8_280 (rc2_of (ci := 9) rfl rfl) dX8_isBalanced_93 rfl rfl (Nat.le_of_ble_eq_true rfl) (by omega) (by omega) (by omega) ?_
            intro x10 hrx10 h
            refine q_if_eq hX dX8_isBalanced_96 (tgt := 110) (by decide) (fun q11 => ?_) (fun q11 => ?_)
            · replace h := ite_t q11 h
              refine q_iconst hX dX8_isBalanced_110 (v := (nI 0)) (by decide) ?_
              exact q_zret hX hT dX8_isBalanced_111 (Or.inl rfl) h
            · replace h := ite_f q11 h
              refine q_aload_n hX dX8_isBalanced_99 rfl ?_
              refine q_V_z hX hR (w_X8_allHeatingTimesAgree  h) lk_X8_283 (rc2_of (ci := 9) rfl rfl) dX8_isBalanced_100 rfl rfl (Nat.le_of_ble_eq_true rfl) (by omega) (by omega) (by omega) ?_
              intro x12 I13 hrx12 h
              refine q_if_eq hX dX8_isBalanced_103 (tgt := 110) (by decide) (fun q14 => ?_) (fun q14 => ?_)
              · replace h := ite_t q14 h
                refine q_iconst hX dX8_isBalanced_110 (v := (nI 0)) (by decide) ?_
                exact q_zret hX hT dX8_isBalanced_111 (Or.inl rfl) h
              · replace h := ite_f q14 h
                refine q_iconst hX dX8_isBalanced_106 (v := (nI 1)) (by decide) ?_
                refine q_goto hX dX8_isBalanced_107 (tgt := 111) (by decide) ?_
                exact q_zret hX hT dX8_isBalanced_111 (Or.inr rfl) h
set_option maxRecDepth 100000 in
set_option maxHeartbeats 4000000 in
theorem w_X8_formatKettle {l : Launch} {D : DT} {L : LT} {a1 : Int32} {I : IT} {K : Int32 → IT → Prop} {KT : String → IT → Prop} (hf : l.stackTraces = false)  (h : f_X8_formatKettle a1 I K KT) : Con2 l D m_X8_formatKettle 10 [.ref 0, .int a1] 13 3846 I L (Px (Pi L K) L KT) := by
  refine Con2.of (by decide +kernel) (by simp [Value.category]) (Nat.le_of_ble_eq_true rfl) (fun X hX hT => ?_)
  have hX : OK X D cX8_formatKettle "TeaHouse" 2 := hX
  have hT : RT X l D (some .int) (P2 (Px (Pi L K) L KT)) 10 13 3846 := hT
  have hR := hT.room
  change J2 X D 2 0 0 I L 0 [.ref 0, .int a1] []
  rw [f_X8_formatKettle] at h
  refine q_aload_n hX dX8_formatKettle_0 rfl ?_
  refine q_iload_n hX dX8_formatKettle_1 rfl ?_
  refine q_V_vpx hX hR hT (w_X8_requireKettle hf  h) lk_X8_123 (rc2_of (ci := 9) rfl rfl) dX8_formatKettle_2 rfl rfl (Nat.le_of_ble_eq_true rfl) (by omega) (by omega) (by omega) (fun _ _ h => by obtain ⟨rfl, h⟩ := h; exact h) ?_
  intro h
  refine q_aload_n hX dX8_formatKettle_5 rfl ?_
  refine q_getR hX gf_X8_43 rfl dX8_formatKettle_6 (at_of (n := 0) rfl) (b := 60) rfl ?_
  refine q_iconst hX dX8_formatKettle_9 (v := (nI 0)) (by decide) ?_
  refine q_V_v hX hR (w_J4_setLength_d00df  h) lk_X8_286 (rc2_of (ci := 1) rfl rfl) dX8_formatKettle_10 rfl rfl (Nat.le_of_ble_eq_true rfl) (by omega) (by omega) (by omega) ?_
  intro I1 h
  refine q_aload_n hX dX8_formatKettle_13 rfl ?_
  refine q_getR hX gf_X8_12 rfl dX8_formatKettle_14 (at_of (n := 0) rfl) (b := 1) rfl ?_
  refine q_getR hX gf_X8_117 rfl dX8_formatKettle_17 (at_of (n := 0) rfl) (b := 2) rfl ?_
  refine q_iload_n hX dX8_formatKettle_20 rfl ?_
  refine q_aload_n hX dX8_formatKettle_21 rfl ?_
  refine q_getR hX gf_X8_43 rfl dX8_formatKettle_22 (at_of (n := 0) rfl) (b := 60) rfl ?_
  refine q_V_v hX hR (w_X3_describe (ket_n (a := 2) rfl) h) lk_X8_289 (rc2_of (ci := 6) rfl rfl) dX8_formatKettle_25 rfl rfl (Nat.le_of_ble_eq_true rfl) (by omega) (by omega) (by omega) ?_
  intro I2 h
  refine q_aload_n hX dX8_formatKettle_28 rfl ?_
  refine q_getR hX gf_X8_43 rfl dX8_formatKettle_29 (at_of (n := 0) rfl) (b := 60) rfl ?_
  refine q_V_ip hX hR (w_J4_length_8abf5  h) lk_X8_293 (rc2_of (ci := 1) rfl rfl) dX8_formatKettle_32 rfl rfl (Nat.le_of_ble_eq_true rfl) (by omega) (by omega) (by omega) ?_
  intro x3 h
  exact q_x_iret hX hT dX8_formatKettle_35 h (by omega) (by omega)
set_option maxRecDepth 100000 in
set_option maxHeartbeats 4000000 in
theorem w_X8_formatOrder {l : Launch} {D : DT} {L : LT} {a1 : Int32} {I : IT} {K : Int32 → IT → Prop} {KT : String → IT → Prop} (hf : l.stackTraces = false)  (h : f_X8_formatOrder a1 I K KT) : Con2 l D m_X8_formatOrder 10 [.ref 0, .int a1] 11 3206 I L (Px (Pi L K) L KT) := by
  refine Con2.of (by decide +kernel) (by simp [Value.category]) (Nat.le_of_ble_eq_true rfl) (fun X hX hT => ?_)
  have hX : OK X D cX8_formatOrder "TeaHouse" 3 := hX
  have hT : RT X l D (some .int) (P2 (Px (Pi L K) L KT)) 10 11 3206 := hT
  have hR := hT.room
  change J2 X D 3 0 0 I L 0 [.ref 0, .int a1, .retAddr 0] []
  rw [f_X8_formatOrder] at h
  refine q_aload_n hX dX8_formatOrder_0 rfl ?_
  refine q_getR hX gf_X8_12 rfl dX8_formatOrder_1 (at_of (n := 0) rfl) (b := 1) rfl ?_
  refine q_getR hX gf_X8_160 rfl dX8_formatOrder_4 (at_of (n := 0) rfl) (b := 8) rfl ?_
  refine q_iload_n hX dX8_formatOrder_7 rfl ?_
  refine q_V_ip hX hR (w_X5_find (ord_n (a := 8) rfl) h) lk_X8_170 (rc2_of (ci := 8) rfl rfl) dX8_formatOrder_8 rfl rfl (Nat.le_of_ble_eq_true rfl) (by omega) (by omega) (by omega) ?_
  intro x1 h
  refine q_S_ipx hX hR hT (w_X8_requireFound hf  h) lk_X8_151 dX8_formatOrder_11 rfl rfl (Nat.le_of_ble_eq_true rfl) (by omega) (by omega) (by omega) (fun _ _ h => by obtain ⟨rfl, h⟩ := h; exact h) ?_
  intro x2 h
  refine q_istore_n hX dX8_formatOrder_14 (by decide) (ls' := [_, _, _]) rfl ?_
  refine q_aload_n hX dX8_formatOrder_15 rfl ?_
  refine q_getR hX gf_X8_43 rfl dX8_formatOrder_16 (at_of (n := 0) rfl) (b := 60) rfl ?_
  refine q_iconst hX dX8_formatOrder_19 (v := (nI 0)) (by decide) ?_
  refine q_V_v hX hR (w_J4_setLength_d00df  h) lk_X8_286 (rc2_of (ci := 1) rfl rfl) dX8_formatOrder_20 rfl rfl (Nat.le_of_ble_eq_true rfl) (by omega) (by omega) (by omega) ?_
  intro I3 h
  refine q_aload_n hX dX8_formatOrder_23 rfl ?_
  refine q_getR hX gf_X8_12 rfl dX8_formatOrder_24 (at_of (n := 0) rfl) (b := 1) rfl ?_
  refine q_getR hX gf_X8_160 rfl dX8_formatOrder_27 (at_of (n := 0) rfl) (b := 8) rfl ?_
  refine q_iload_n hX dX8_formatOrder_30 rfl ?_
  refine q_aload_n hX dX8_formatOrder_31 rfl ?_
  refine q_getR hX gf_X8_43 rfl dX8_formatOrder_32 (at_of (n := 0) rfl) (b := 60) rfl ?_
  refine q_V_v hX hR (w_X5_describe (ord_n (a := 8) rfl) h) lk_X8_296 (rc2_of (ci := 8) rfl rfl) dX8_formatOrder_35 rfl rfl (Nat.le_of_ble_eq_true rfl) (by omega) (by omega) (by omega) ?_
  intro I4 h
  refine q_aload_n hX dX8_formatOrder_38 rfl ?_
  refine q_getR hX gf_X8_43 rfl dX8_formatOrder_39 (at_of (n := 0) rfl) (b := 60) rfl ?_
  refine q_V_ip hX hR (w_J4_length_8abf5  h) lk_X8_293 (rc2_of (ci := 1) rfl rfl) dX8_formatOrder_42 rfl rfl (Nat.le_of_ble_eq_true rfl) (by omega) (by omega) (by omega) ?_
  intro x5 h
  exact q_x_iret hX hT dX8_formatOrder_45 h (by omega) (by omega)
set_option maxRecDepth 100000 in
set_option maxHeartbeats 4000000 in
theorem w_X8_formatLedger {l : Launch} {D : DT} {L : LT}  {I : IT} {K : Int32 → IT → Prop}  (h : f_X8_formatLedger  I K) : Con2 l D m_X8_formatLedger 10 [.ref 0] 30 9600 I L (Pi L K) := by
  refine Con2.of (by decide +kernel) (by simp [Value.category]) (Nat.le_of_ble_eq_true rfl) (fun X hX hT => ?_)
  have hX : OK X D cX8_formatLedger "TeaHouse" 1 := hX
  have hT : RT X l D (some .int) (P2 (Pi L K)) 10 30 9600 := hT
  have hR := hT.room
  change J2 X D 1 0 0 I L 0 [.ref 0] []
  rw [f_X8_formatLedger] at h
  refine q_aload_n hX dX8_formatLedger_0 rfl ?_
  refine q_getR hX gf_X8_43 rfl dX8_formatLedger_1 (at_of (n := 0) rfl) (b := 60) rfl ?_
  refine q_iconst hX dX8_formatLedger_4 (v := (nI 0)) (by decide) ?_
  refine q_V_v hX hR (w_J4_setLength_d00df  h) lk_X8_286 (rc2_of (ci := 1) rfl rfl) dX8_formatLedger_5 rfl rfl (Nat.le_of_ble_eq_true rfl) (by omega) (by omega) (by omega) ?_
  intro I1 h
  refine q_aload_n hX dX8_formatLedger_8 rfl ?_
  refine q_getR hX gf_X8_12 rfl dX8_formatLedger_9 (at_of (n := 0) rfl) (b := 1) rfl ?_
  refine q_getR hX gf_X8_216 rfl dX8_formatLedger_12 (at_of (n := 0) rfl) (b := 14) rfl ?_
  refine q_aload_n hX dX8_formatLedger_15 rfl ?_
  refine q_getR hX gf_X8_43 rfl dX8_formatLedger_16 (at_of (n := 0) rfl) (b := 60) rfl ?_
  refine q_V_v hX hR (w_X4_describe (led_n (a := 14) rfl) h) lk_X8_297 (rc2_of (ci := 7) rfl rfl) dX8_formatLedger_19 rfl rfl (Nat.le_of_ble_eq_true rfl) (by omega) (by omega) (by omega) ?_
  intro I2 h
  refine q_aload_n hX dX8_formatLedger_22 rfl ?_
  refine q_getR hX gf_X8_43 rfl dX8_formatLedger_23 (at_of (n := 0) rfl) (b := 60) rfl ?_
  refine q_V_ip hX hR (w_J4_length_8abf5  h) lk_X8_293 (rc2_of (ci := 1) rfl rfl) dX8_formatLedger_26 rfl rfl (Nat.le_of_ble_eq_true rfl) (by omega) (by omega) (by omega) ?_
  intro x3 h
  exact q_iret hX hT dX8_formatLedger_29 h (by omega) (by omega)
set_option maxRecDepth 100000 in
set_option maxHeartbeats 4000000 in
theorem w_X8_lineChar_b15 {X : XT} {D : DT} {l : Launch} {L : LT} {a1 : Int32} {I : IT} {K : Int32 → Prop} {KT : String → Prop} (hf : l.stackTraces = false) (hX : OK X D cX8_lineChar "TeaHouse" 2) (hT : RT X l D (some .char) (P2 (Px (Pc L (fun x I' => I' = I ∧ K x)) L (fun E I' => I' = I ∧ KT E))) 9 1 6)   : ∀ {c w : Nat}, c + 1 ≤ 1 → w + 6 ≤ 6 → f_X8_lineChar_b15 a1 I K KT  → J2 X D 2 c w I L 15 [.retAddr 0, .retAddr 0] [] := by
  have hR := hT.room
  intro c w hc hw h
  rw [f_X8_lineChar_b15] at h
  exact q_throwWp hX hT hf th_226 (text := "the line has no such character") (code := 59) (by decide +kernel) dX8_lineChar_15 dX8_lineChar_18 dX8_lineChar_19 dX8_lineChar_22 dX8_lineChar_25 (by decide) (by omega) h (by omega) (by omega)
set_option maxRecDepth 100000 in
set_option maxHeartbeats 4000000 in
theorem w_X8_lineChar {l : Launch} {D : DT} {L : LT} {a1 : Int32} {I : IT} {K : Int32 → Prop} {KT : String → Prop} (hf : l.stackTraces = false)  (h : f_X8_lineChar a1 I K KT) : Con2 l D m_X8_lineChar 9 [.ref 0, .int a1] 1 6 I L (Px (Pc L (fun x I' => I' = I ∧ K x)) L (fun E I' => I' = I ∧ KT E)) := by
  refine Con2.of (by decide +kernel) (by simp [Value.category]) (Nat.le_of_ble_eq_true rfl) (fun X hX hT => ?_)
  have hX : OK X D cX8_lineChar "TeaHouse" 2 := hX
  have hT : RT X l D (some .char) (P2 (Px (Pc L (fun x I' => I' = I ∧ K x)) L (fun E I' => I' = I ∧ KT E))) 9 1 6 := hT
  have hR := hT.room
  change J2 X D 2 0 0 I L 0 [.ref 0, .int a1] []
  rw [f_X8_lineChar] at h
  refine q_iload_n hX dX8_lineChar_0 rfl ?_
  refine q_if_lt hX dX8_lineChar_1 (tgt := 15) (by decide) (fun q1 => ?_) (fun q1 => ?_)
  · replace h := ite_t q1 h
    exact q_dr (w_X8_lineChar_b15 hf hX hT     (by omega) (by omega)   h) ⟨Or.inr rfl, Or.inr rfl, trivial⟩
  · replace h := ite_f q1 h
    refine q_iload_n hX dX8_lineChar_4 rfl ?_
    refine q_aload_n hX dX8_lineChar_5 rfl ?_
    refine q_getR hX gf_X8_43 rfl dX8_lineChar_6 (at_of (n := 0) rfl) (b := 60) rfl ?_
    refine q_V_ip hX hR (w_J4_length_8abf5  h) lk_X8_293 (rc2_of (ci := 1) rfl rfl) dX8_lineChar_9 rfl rfl (Nat.le_of_ble_eq_true rfl) (by omega) (by omega) (by omega) ?_
    intro x2 h
    refine q_icmp_lt hX dX8_lineChar_12 (tgt := 26) (by decide) (fun q3 => ?_) (fun q3 => ?_)
    · replace h := ite_t q3 h
      refine q_aload_n hX dX8_lineChar_26 rfl ?_
      refine q_getR hX gf_X8_43 rfl dX8_lineChar_27 (at_of (n := 0) rfl) (b := 60) rfl ?_
      refine q_iload_n hX dX8_lineChar_30 rfl ?_
      refine q_V_cp hX hR (w_J4_charAt_5068e  h) lk_X8_302 (rc2_of (ci := 1) rfl rfl) dX8_lineChar_31 rfl rfl (Nat.le_of_ble_eq_true rfl) (by omega) (by omega) (by omega) ?_
      intro x4 hrx4 h
      exact q_x_cretp hX hT dX8_lineChar_34 hrx4 h (by omega) (by omega)
    · replace h := ite_f q3 h
      exact q_dr (w_X8_lineChar_b15 hf hX hT     (by omega) (by omega)   h) ⟨Or.inr rfl, Or.inr rfl, trivial⟩
set_option maxRecDepth 100000 in
set_option maxHeartbeats 4000000 in
theorem w_X8_append_b12 {X : XT} {D : DT} {l : Launch} {L : LT} {a1 : Int32} {K : Int32 → IT → Prop} {KT : String → IT → Prop} (hf : l.stackTraces = false) (hX : OK X D cX8_append "TeaHouse" 2) (hT : RT X l D (some .int) (P2 (Px (Pi L K) L KT)) 6 1 6) (ha1 : isC a1)  : ∀ {c w : Nat}, c + 1 ≤ 1 → w + 6 ≤ 6 → ∀ (I : IT), f_X8_append_b12 a1 K KT I → J2 X D 2 c w I L 12 [.retAddr 0, .retAddr 0] [] := by
  have hR := hT.room
  intro c w hc hw I h
  rw [f_X8_append_b12] at h
  exact q_throwW hX hT hf th_306 (text := "the character is not in the range from blank to tilde") (code := 60) (by decide +kernel) dX8_append_12 dX8_append_15 dX8_append_16 dX8_append_19 dX8_append_22 (by decide) (by omega) h (by omega) (by omega)
set_option maxRecDepth 100000 in
set_option maxHeartbeats 4000000 in
theorem w_X8_append {l : Launch} {D : DT} {L : LT} {a1 : Int32} {I : IT} {K : Int32 → IT → Prop} {KT : String → IT → Prop} (hf : l.stackTraces = false) (ha1 : isC a1) (h : f_X8_append a1 I K KT) : Con2 l D m_X8_append 6 [.ref 0, .int a1] 1 6 I L (Px (Pi L K) L KT) := by
  refine Con2.of (by decide +kernel) (by simp [Value.category]) (Nat.le_of_ble_eq_true rfl) (fun X hX hT => ?_)
  have hX : OK X D cX8_append "TeaHouse" 2 := hX
  have hT : RT X l D (some .int) (P2 (Px (Pi L K) L KT)) 6 1 6 := hT
  have hR := hT.room
  change J2 X D 2 0 0 I L 0 [.ref 0, .int a1] []
  rw [f_X8_append] at h
  refine q_iload_n hX dX8_append_0 rfl ?_
  refine q_bipush hX dX8_append_1 (v := (nI 32)) (by decide) ?_
  refine q_icmp_lt hX dX8_append_3 (tgt := 12) (by decide) (fun q1 => ?_) (fun q1 => ?_)
  · replace h := ite_t q1 h
    exact q_dr (w_X8_append_b12 hf hX hT ha1    (by omega) (by omega) _  h) ⟨Or.inr rfl, Or.inr rfl, trivial⟩
  · replace h := ite_f q1 h
    refine q_iload_n hX dX8_append_6 rfl ?_
    refine q_bipush hX dX8_append_7 (v := (nI 126)) (by decide) ?_
    refine q_icmp_le hX dX8_append_9 (tgt := 23) (by decide) (fun q2 => ?_) (fun q2 => ?_)
    · replace h := ite_t q2 h
      refine q_aload_n hX dX8_append_23 rfl ?_
      refine q_getR hX gf_X8_36 rfl dX8_append_24 (at_of (n := 0) rfl) (b := 56) rfl ?_
      refine q_getI hX gf_X8_311 rfl dX8_append_27 (at_of (n := 0) rfl) ?_
      refine q_bipush hX dX8_append_30 (v := (nI 60)) (by decide) ?_
      refine q_icmp_lt hX dX8_append_32 (tgt := 46) (by decide) (fun q3 => ?_) (fun q3 => ?_)
      · replace h := ite_t q3 h
        refine q_aload_n hX dX8_append_46 rfl ?_
        refine q_getR hX gf_X8_36 rfl dX8_append_47 (at_of (n := 0) rfl) (b := 56) rfl ?_
        refine q_iload_n hX dX8_append_50 rfl ?_
        refine q_V_v hX hR (w_X2_add ha1 h) lk_X8_318 (rc2_of (ci := 5) rfl rfl) dX8_append_51 rfl rfl (Nat.le_of_ble_eq_true rfl) (by omega) (by omega) (by omega) ?_
        intro I4 h
        refine q_aload_n hX dX8_append_54 rfl ?_
        refine q_getR hX gf_X8_36 rfl dX8_append_55 (at_of (n := 0) rfl) (b := 56) rfl ?_
        refine q_getI hX gf_X8_311 rfl dX8_append_58 (at_of (n := 0) rfl) ?_
        exact q_x_iret hX hT dX8_append_61 h (by omega) (by omega)
      · replace h := ite_f q3 h
        exact q_throwW hX hT hf th_313 (text := "the input buffer is full") (code := 61) (by decide +kernel) dX8_append_35 dX8_append_38 dX8_append_39 dX8_append_42 dX8_append_45 (by decide) (by omega) h (by omega) (by omega)
    · replace h := ite_f q2 h
      exact q_dr (w_X8_append_b12 hf hX hT ha1    (by omega) (by omega) _  h) ⟨Or.inr rfl, Or.inr rfl, trivial⟩
set_option maxRecDepth 100000 in
set_option maxHeartbeats 4000000 in
theorem w_X8_firstFailureOnTrial_b13 {X : XT} {D : DT} {l : Launch} {L : LT} {K : Int32 → IT → Prop} (hX : OK X D cX8_firstFailureOnTrial "TeaHouse" 7) (hT : RT X l D (some .int) (P2 (Pi L K)) 6 0 0)   : ∀ (n : Nat), ∀ (v1 : Int32) (I : IT), f_X8_firstFailureOnTrial_b13 K n v1 I → J2 X D 7 0 0 I L 13 [.ref 0, .int v1, .retAddr 0, .retAddr 0, .retAddr 0, .retAddr 0, .retAddr 0] [] := by
  have hR := hT.room
  intro n
  induction n with
  | zero => intro v1 I h; exact False.elim h
  | succ n ih =>
    intro v1 I h
    rw [f_X8_firstFailureOnTrial_b13] at h
    refine q_iload_n hX dX8_firstFailureOnTrial_13 rfl ?_
    refine q_aload_n hX dX8_firstFailureOnTrial_14 rfl ?_
    refine q_getR hX gf_X8_36 rfl dX8_firstFailureOnTrial_15 (at_of (n := 0) rfl) (b := 56) rfl ?_
    refine q_getI hX gf_X8_342 rfl dX8_firstFailureOnTrial_18 (at_of (n := 0) rfl) ?_
    refine q_icmp_ge hX dX8_firstFailureOnTrial_21 (tgt := 126) (by decide) (fun q1 => ?_) (fun q1 => ?_)
    · replace h := ite_t q1 h
      refine q_iconst hX dX8_firstFailureOnTrial_126 (v := (-1)) (by decide) ?_
      exact q_iret hX hT dX8_firstFailureOnTrial_127 h
    · replace h := ite_f q1 h
      refine q_gets hX (q := ("TeaHouse", "VERBS", "[LTeaHouse$Verb;", .ref 1000030)) (by decide +kernel) gs_X8_361 dX8_firstFailureOnTrial_24 ?_
      refine q_aload_n hX dX8_firstFailureOnTrial_27 rfl ?_
      refine q_getR hX gf_X8_36 rfl dX8_firstFailureOnTrial_28 (at_of (n := 0) rfl) (b := 56) rfl ?_
      refine q_getR hX gf_X8_365 rfl dX8_firstFailureOnTrial_31 (at_of (n := 0) rfl) (b := 58) rfl ?_
      refine q_iload_n hX dX8_firstFailureOnTrial_34 rfl ?_
      obtain ⟨z2, h⟩ := h
      refine q_iald hX dX8_firstFailureOnTrial_35 (at_of (a := 58) (t := 22) (n := 12) rfl) (inr_e z2) (inr_lt z2) (by decide) ?_
      obtain ⟨z3, h⟩ := h
      refine q_vers hX dX8_firstFailureOnTrial_36 z3 ?_
      refine q_astore_n hX dX8_firstFailureOnTrial_37 (by decide) (ls' := [_, _, _, _, _, _, _]) rfl ?_
      refine q_aload_n hX dX8_firstFailureOnTrial_38 rfl ?_
      refine q_getR hX gf_X8_36 rfl dX8_firstFailureOnTrial_39 (at_of (n := 0) rfl) (b := 56) rfl ?_
      refine q_iload_n hX dX8_firstFailureOnTrial_42 rfl ?_
      refine q_iconst hX dX8_firstFailureOnTrial_43 (v := (nI 0)) (by decide) ?_
      refine q_V_ip hX hR (w_X2_argument  h) lk_X8_368 (rc2_of (ci := 5) rfl rfl) dX8_firstFailureOnTrial_44 rfl rfl (Nat.le_of_ble_eq_true rfl) (by omega) (by omega) (by omega) ?_
      intro x4 h
      refine q_istore_n hX dX8_firstFailureOnTrial_47 (by decide) (ls' := [_, _, _, _, _, _, _]) rfl ?_
      refine q_aload_n hX dX8_firstFailureOnTrial_48 rfl ?_
      refine q_getR hX gf_X8_36 rfl dX8_firstFailureOnTrial_49 (at_of (n := 0) rfl) (b := 56) rfl ?_
      refine q_iload_n hX dX8_firstFailureOnTrial_52 rfl ?_
      refine q_iconst hX dX8_firstFailureOnTrial_53 (v := (nI 1)) (by decide) ?_
      refine q_V_ip hX hR (w_X2_argument  h) lk_X8_368 (rc2_of (ci := 5) rfl rfl) dX8_firstFailureOnTrial_54 rfl rfl (Nat.le_of_ble_eq_true rfl) (by omega) (by omega) (by omega) ?_
      intro x5 h
      refine q_istore hX dX8_firstFailureOnTrial_57 (by decide) (ls' := [_, _, _, _, _, _, _]) rfl ?_
      refine q_aload_n hX dX8_firstFailureOnTrial_59 rfl ?_
      refine q_getR hX gf_X8_36 rfl dX8_firstFailureOnTrial_60 (at_of (n := 0) rfl) (b := 56) rfl ?_
      refine q_iload_n hX dX8_firstFailureOnTrial_63 rfl ?_
      refine q_iconst hX dX8_firstFailureOnTrial_64 (v := (nI 2)) (by decide) ?_
      refine q_V_ip hX hR (w_X2_argument  h) lk_X8_368 (rc2_of (ci := 5) rfl rfl) dX8_firstFailureOnTrial_65 rfl rfl (Nat.le_of_ble_eq_true rfl) (by omega) (by omega) (by omega) ?_
      intro x6 h
      refine q_istore hX dX8_firstFailureOnTrial_68 (by decide) (ls' := [_, _, _, _, _, _, _]) rfl ?_
      refine q_aload_n hX dX8_firstFailureOnTrial_70 rfl ?_
      refine q_getR hX gf_X8_36 rfl dX8_firstFailureOnTrial_71 (at_of (n := 0) rfl) (b := 56) rfl ?_
      refine q_iload_n hX dX8_firstFailureOnTrial_74 rfl ?_
      refine q_iconst hX dX8_firstFailureOnTrial_75 (v := (nI 3)) (by decide) ?_
      refine q_V_ip hX hR (w_X2_argument  h) lk_X8_368 (rc2_of (ci := 5) rfl rfl) dX8_firstFailureOnTrial_76 rfl rfl (Nat.le_of_ble_eq_true rfl) (by omega) (by omega) (by omega) ?_
      intro x7 h
      refine q_istore hX dX8_firstFailureOnTrial_79 (by decide) (ls' := [_, _, _, _, _, _, _]) rfl ?_
      refine q_aload_n hX dX8_firstFailureOnTrial_81 rfl ?_
      refine q_getR hX gf_X8_16 rfl dX8_firstFailureOnTrial_82 (at_of (n := 0) rfl) (b := 17) rfl ?_
      refine q_aload_n hX dX8_firstFailureOnTrial_85 rfl ?_
      refine q_iload_n hX dX8_firstFailureOnTrial_86 rfl ?_
      refine q_iload hX dX8_firstFailureOnTrial_87 rfl ?_
      refine q_iload hX dX8_firstFailureOnTrial_89 rfl ?_
      refine q_iload hX dX8_firstFailureOnTrial_91 rfl ?_
      refine q_V_ap hX hR (w_X1_refusal (hou_n (a := 17) rfl) (isVer_ix z3) h) lk_X8_189 (rc2_of (ci := 4) rfl rfl) dX8_firstFailureOnTrial_93 rfl rfl (Nat.le_of_ble_eq_true rfl) (by omega) (by omega) (by omega) ?_
      intro x8 hrx8 h
      refine q_gets hX (q := ("TeaHouse$Refusal", "NOTHING", "LTeaHouse$Refusal;", .ref 1000020)) (by decide +kernel) gs_X8_193 dX8_firstFailureOnTrial_96 ?_
      refine q_acmp_eq hX hrx8 ⟨by decide, by decide⟩ dX8_firstFailureOnTrial_99 (tgt := 104) (by decide) (fun q9 => ?_) (fun q9 => ?_)
      · replace h := ite_t q9 h
        refine q_aload_n hX dX8_firstFailureOnTrial_104 rfl ?_
        refine q_getR hX gf_X8_16 rfl dX8_firstFailureOnTrial_105 (at_of (n := 0) rfl) (b := 17) rfl ?_
        refine q_aload_n hX dX8_firstFailureOnTrial_108 rfl ?_
        refine q_iload_n hX dX8_firstFailureOnTrial_109 rfl ?_
        refine q_iload hX dX8_firstFailureOnTrial_110 rfl ?_
        refine q_iload hX dX8_firstFailureOnTrial_112 rfl ?_
        refine q_iload hX dX8_firstFailureOnTrial_114 rfl ?_
        refine q_V_i hX hR (w_X1_perform (hou_n (a := 17) rfl) (isVer_ix z3) h) lk_X8_353 (rc2_of (ci := 4) rfl rfl) dX8_firstFailureOnTrial_116 rfl rfl (Nat.le_of_ble_eq_true rfl) (by omega) (by omega) (by omega) ?_
        intro x10 I11 h
        refine q_pop hX dX8_firstFailureOnTrial_119 rfl ?_
        replace h := bnd_e h
        refine q_iinc hX dX8_firstFailureOnTrial_120 (by decide) rfl (v := _ + nI 1) (ls' := [_, _, _, _, _, _, _]) rfl rfl ?_
        refine q_goto hX dX8_firstFailureOnTrial_123 (tgt := 13) (by decide) ?_
        exact q_dr (ih _ _  h) ⟨Or.inl rfl, Or.inl rfl, Or.inr rfl, Or.inr rfl, Or.inr rfl, Or.inr rfl, Or.inr rfl, trivial⟩
      · replace h := ite_f q9 h
        refine q_iload_n hX dX8_firstFailureOnTrial_102 rfl ?_
        exact q_iret hX hT dX8_firstFailureOnTrial_103 h
set_option maxRecDepth 100000 in
set_option maxHeartbeats 4000000 in
theorem w_X8_firstFailureOnTrial {l : Launch} {D : DT} {L : LT}  {I : IT} {K : Int32 → IT → Prop}  (h : f_X8_firstFailureOnTrial  I K) : Con2 l D m_X8_firstFailureOnTrial 6 [.ref 0] 0 0 I L (Pi L K) := by
  refine Con2.of (by decide +kernel) (by simp [Value.category]) (Nat.le_of_ble_eq_true rfl) (fun X hX hT => ?_)
  have hX : OK X D cX8_firstFailureOnTrial "TeaHouse" 7 := hX
  have hT : RT X l D (some .int) (P2 (Pi L K)) 6 0 0 := hT
  have hR := hT.room
  change J2 X D 7 0 0 I L 0 [.ref 0, .retAddr 0, .retAddr 0, .retAddr 0, .retAddr 0, .retAddr 0, .retAddr 0] []
  rw [f_X8_firstFailureOnTrial] at h
  refine q_aload_n hX dX8_firstFailureOnTrial_0 rfl ?_
  refine q_getR hX gf_X8_16 rfl dX8_firstFailureOnTrial_1 (at_of (n := 0) rfl) (b := 17) rfl ?_
  refine q_aload_n hX dX8_firstFailureOnTrial_4 rfl ?_
  refine q_getR hX gf_X8_12 rfl dX8_firstFailureOnTrial_5 (at_of (n := 0) rfl) (b := 1) rfl ?_
  refine q_V_v hX hR (w_X1_copyFrom (hou_n (a := 17) rfl) (hou_n (a := 1) rfl) h) lk_X8_338 (rc2_of (ci := 4) rfl rfl) dX8_firstFailureOnTrial_8 rfl rfl (Nat.le_of_ble_eq_true rfl) (by omega) (by omega) (by omega) ?_
  intro I1 h
  refine q_iconst hX dX8_firstFailureOnTrial_11 (v := (nI 0)) (by decide) ?_
  refine q_istore_n hX dX8_firstFailureOnTrial_12 (by decide) (ls' := [_, _, _, _, _, _, _]) rfl ?_
  exact q_dr (w_X8_firstFailureOnTrial_b13 hX hT   _  _ _  h) ⟨Or.inl rfl, Or.inl rfl, Or.inl rfl, Or.inl rfl, Or.inl rfl, Or.inl rfl, Or.inl rfl, trivial⟩
set_option maxRecDepth 100000 in
set_option maxHeartbeats 4000000 in
theorem w_X8_run {l : Launch} {D : DT} {L : LT}  {I : IT} {K : Int32 → IT → Prop} {KT : String → IT → Prop} (hf : l.stackTraces = false)  (h : f_X8_run  I K KT) : Con2 l D m_X8_run 13 [.ref 0] 1 6 I L (Px (Pi L K) L KT) := by
  refine Con2.of (by decide +kernel) (by simp [Value.category]) (Nat.le_of_ble_eq_true rfl) (fun X hX hT => ?_)
  have hX : OK X D cX8_run "TeaHouse" 3 := hX
  have hT : RT X l D (some .int) (P2 (Px (Pi L K) L KT)) 13 1 6 := hT
  have hR := hT.room
  change J2 X D 3 0 0 I L 0 [.ref 0, .retAddr 0, .retAddr 0] []
  rw [f_X8_run] at h
  refine q_aload_n hX dX8_run_0 rfl ?_
  refine q_getR hX gf_X8_36 rfl dX8_run_1 (at_of (n := 0) rfl) (b := 56) rfl ?_
  refine q_V_z hX hR (w_X2_parse  h) lk_X8_322 (rc2_of (ci := 5) rfl rfl) dX8_run_4 rfl rfl (Nat.le_of_ble_eq_true rfl) (by omega) (by omega) (by omega) ?_
  intro x1 I2 hrx1 h
  refine q_istore_n hX dX8_run_7 (by decide) (ls' := [_, _, _]) rfl ?_
  refine q_aload_n hX dX8_run_8 rfl ?_
  refine q_getR hX gf_X8_36 rfl dX8_run_9 (at_of (n := 0) rfl) (b := 56) rfl ?_
  refine q_iconst hX dX8_run_12 (v := (nI 0)) (by decide) ?_
  replace h := wr_e h
  refine q_putI hX pf_X8_311 rfl dX8_run_13 (at_of (n := 0) rfl) rfl rfl ?_
  generalize up2 _ _ _ _ = I3 at h ⊢
  refine q_iload_n hX dX8_run_16 rfl ?_
  refine q_if_ne hX dX8_run_17 (tgt := 42) (by decide) (fun q4 => ?_) (fun q4 => ?_)
  · replace h := ite_f q4 h
    refine q_aload_n hX dX8_run_42 rfl ?_
    refine q_V_i hX hR (w_X8_firstFailureOnTrial  h) lk_X8_330 (rc2_of (ci := 9) rfl rfl) dX8_run_43 rfl rfl (Nat.le_of_ble_eq_true rfl) (by omega) (by omega) (by omega) ?_
    intro x6 I7 h
    refine q_istore_n hX dX8_run_46 (by decide) (ls' := [_, _, _]) rfl ?_
    refine q_iload_n hX dX8_run_47 rfl ?_
    refine q_iconst hX dX8_run_48 (v := (-1)) (by decide) ?_
    refine q_icmp_eq hX dX8_run_49 (tgt := 68) (by decide) (fun q8 => ?_) (fun q8 => ?_)
    · replace h := ite_t q8 h
      refine q_aload_n hX dX8_run_68 rfl ?_
      refine q_V_v hX hR (w_X8_remember  h) lk_X8_335 (rc2_of (ci := 9) rfl rfl) dX8_run_69 rfl rfl (Nat.le_of_ble_eq_true rfl) (by omega) (by omega) (by omega) ?_
      intro I9 h
      refine q_aload_n hX dX8_run_72 rfl ?_
      refine q_getR hX gf_X8_12 rfl dX8_run_73 (at_of (n := 0) rfl) (b := 1) rfl ?_
      refine q_aload_n hX dX8_run_76 rfl ?_
      refine q_getR hX gf_X8_16 rfl dX8_run_77 (at_of (n := 0) rfl) (b := 17) rfl ?_
      refine q_V_v hX hR (w_X1_copyFrom (hou_n (a := 1) rfl) (hou_n (a := 17) rfl) h) lk_X8_338 (rc2_of (ci := 4) rfl rfl) dX8_run_80 rfl rfl (Nat.le_of_ble_eq_true rfl) (by omega) (by omega) (by omega) ?_
      intro I10 h
      refine q_aload_n hX dX8_run_83 rfl ?_
      refine q_getR hX gf_X8_36 rfl dX8_run_84 (at_of (n := 0) rfl) (b := 56) rfl ?_
      refine q_getI hX gf_X8_342 rfl dX8_run_87 (at_of (n := 0) rfl) ?_
      exact q_x_iret hX hT dX8_run_90 h (by omega) (by omega)
    · replace h := ite_f q8 h
      refine q_aload_n hX dX8_run_52 rfl ?_
      refine q_iload_n hX dX8_run_53 rfl ?_
      replace h := wr_e h
      refine q_putI hX pf_X8_61 rfl dX8_run_54 (at_of (n := 0) rfl) rfl rfl ?_
      generalize up2 _ _ _ _ = I11 at h ⊢
      exact q_throwW hX hT hf th_313 (text := "a command of the program failed") (code := 63) (by decide +kernel) dX8_run_57 dX8_run_60 dX8_run_61 dX8_run_64 dX8_run_67 (by decide) (by omega) h (by omega) (by omega)
  · replace h := ite_t q4 h
    refine q_aload_n hX dX8_run_20 rfl ?_
    refine q_aload_n hX dX8_run_21 rfl ?_
    refine q_getR hX gf_X8_36 rfl dX8_run_22 (at_of (n := 0) rfl) (b := 56) rfl ?_
    refine q_getI hX gf_X8_325 rfl dX8_run_25 (at_of (n := 0) rfl) ?_
    replace h := wr_e h
    refine q_putI hX pf_X8_58 rfl dX8_run_28 (at_of (n := 0) rfl) rfl rfl ?_
    generalize up2 _ _ _ _ = I5 at h ⊢
    exact q_throwW hX hT hf th_306 (text := "the program is malformed") (code := 62) (by decide +kernel) dX8_run_31 dX8_run_34 dX8_run_35 dX8_run_38 dX8_run_41 (by decide) (by omega) h (by omega) (by omega)
set_option maxRecDepth 100000 in
set_option maxHeartbeats 4000000 in
theorem w_X8_errorPosition {l : Launch} {D : DT} {L : LT}  {I : IT} {K : Int32 → Prop} {KT : String → Prop} (hf : l.stackTraces = false)  (h : f_X8_errorPosition  I K KT) : Con2 l D m_X8_errorPosition 7 [.ref 0] 1 6 I L (Px (Pi L (fun x I' => I' = I ∧ K x)) L (fun E I' => I' = I ∧ KT E)) := by
  refine Con2.of (by decide +kernel) (by simp [Value.category]) (Nat.le_of_ble_eq_true rfl) (fun X hX hT => ?_)
  have hX : OK X D cX8_errorPosition "TeaHouse" 1 := hX
  have hT : RT X l D (some .int) (P2 (Px (Pi L (fun x I' => I' = I ∧ K x)) L (fun E I' => I' = I ∧ KT E))) 7 1 6 := hT
  have hR := hT.room
  change J2 X D 1 0 0 I L 0 [.ref 0] []
  rw [f_X8_errorPosition] at h
  refine q_aload_n hX dX8_errorPosition_0 rfl ?_
  refine q_getI hX gf_X8_58 rfl dX8_errorPosition_1 (at_of (n := 0) rfl) ?_
  refine q_S_ipx hX hR hT (w_X8_requireFound hf  h) lk_X8_151 dX8_errorPosition_4 rfl rfl (Nat.le_of_ble_eq_true rfl) (by omega) (by omega) (by omega) (fun _ _ h => h) ?_
  intro x1 h
  exact q_x_iretp hX hT dX8_errorPosition_7 h (by omega) (by omega)
set_option maxRecDepth 100000 in
set_option maxHeartbeats 4000000 in
theorem w_X8_failedCommand {l : Launch} {D : DT} {L : LT}  {I : IT} {K : Int32 → Prop} {KT : String → Prop} (hf : l.stackTraces = false)  (h : f_X8_failedCommand  I K KT) : Con2 l D m_X8_failedCommand 7 [.ref 0] 1 6 I L (Px (Pi L (fun x I' => I' = I ∧ K x)) L (fun E I' => I' = I ∧ KT E)) := by
  refine Con2.of (by decide +kernel) (by simp [Value.category]) (Nat.le_of_ble_eq_true rfl) (fun X hX hT => ?_)
  have hX : OK X D cX8_failedCommand "TeaHouse" 1 := hX
  have hT : RT X l D (some .int) (P2 (Px (Pi L (fun x I' => I' = I ∧ K x)) L (fun E I' => I' = I ∧ KT E))) 7 1 6 := hT
  have hR := hT.room
  change J2 X D 1 0 0 I L 0 [.ref 0] []
  rw [f_X8_failedCommand] at h
  refine q_aload_n hX dX8_failedCommand_0 rfl ?_
  refine q_getI hX gf_X8_61 rfl dX8_failedCommand_1 (at_of (n := 0) rfl) ?_
  refine q_S_ipx hX hR hT (w_X8_requireFound hf  h) lk_X8_151 dX8_failedCommand_4 rfl rfl (Nat.le_of_ble_eq_true rfl) (by omega) (by omega) (by omega) (fun _ _ h => h) ?_
  intro x1 h
  exact q_x_iretp hX hT dX8_failedCommand_7 h (by omega) (by omega)
set_option maxRecDepth 100000 in
set_option maxHeartbeats 4000000 in
theorem w_X8_undoableCount {l : Launch} {D : DT} {L : LT}  {I : IT} {K : Int32 → Prop}  (h : f_X8_undoableCount  I K) : Con2 l D m_X8_undoableCount 1 [.ref 0] 0 0 I L (Pi L (fun x I' => I' = I ∧ K x)) := by
  refine Con2.of (by decide +kernel) (by simp [Value.category]) (Nat.le_of_ble_eq_true rfl) (fun X hX hT => ?_)
  have hX : OK X D cX8_undoableCount "TeaHouse" 1 := hX
  have hT : RT X l D (some .int) (P2 (Pi L (fun x I' => I' = I ∧ K x))) 1 0 0 := hT
  have hR := hT.room
  change J2 X D 1 0 0 I L 0 [.ref 0] []
  rw [f_X8_undoableCount] at h
  refine q_aload_n hX dX8_undoableCount_0 rfl ?_
  refine q_getI hX gf_X8_51 rfl dX8_undoableCount_1 (at_of (n := 0) rfl) ?_
  exact q_iretp hX hT dX8_undoableCount_4 h
set_option maxRecDepth 100000 in
set_option maxHeartbeats 4000000 in
theorem w_X8_undo {l : Launch} {D : DT} {L : LT}  {I : IT} {K : Int32 → IT → Prop} {KT : String → IT → Prop} (hf : l.stackTraces = false)  (h : f_X8_undo  I K KT) : Con2 l D m_X8_undo 6 [.ref 0] 1 6 I L (Px (Pi L K) L KT) := by
  refine Con2.of (by decide +kernel) (by simp [Value.category]) (Nat.le_of_ble_eq_true rfl) (fun X hX hT => ?_)
  have hX : OK X D cX8_undo "TeaHouse" 1 := hX
  have hT : RT X l D (some .int) (P2 (Px (Pi L K) L KT)) 6 1 6 := hT
  have hR := hT.room
  change J2 X D 1 0 0 I L 0 [.ref 0] []
  rw [f_X8_undo] at h
  refine q_aload_n hX dX8_undo_0 rfl ?_
  refine q_getI hX gf_X8_51 rfl dX8_undo_1 (at_of (n := 0) rfl) ?_
  refine q_if_gt hX dX8_undo_4 (tgt := 18) (by decide) (fun q1 => ?_) (fun q1 => ?_)
  · replace h := ite_t q1 h
    refine q_aload_n hX dX8_undo_18 rfl ?_
    refine q_aload_n hX dX8_undo_19 rfl ?_
    refine q_getI hX gf_X8_55 rfl dX8_undo_20 (at_of (n := 0) rfl) ?_
    refine q_bipush hX dX8_undo_23 (v := (nI 8)) (by decide) ?_
    refine q_iadd hX dX8_undo_25 ?_
    refine q_iconst hX dX8_undo_26 (v := (nI 1)) (by decide) ?_
    refine q_isub hX dX8_undo_27 ?_
    refine q_bipush hX dX8_undo_28 (v := (nI 8)) (by decide) ?_
    refine q_irem hX dX8_undo_30 (by decide) ?_
    replace h := wr_e h
    refine q_putI hX pf_X8_55 rfl dX8_undo_31 (at_of (n := 0) rfl) rfl rfl ?_
    generalize up2 _ _ _ _ = I2 at h ⊢
    refine q_aload_n hX dX8_undo_34 rfl ?_
    refine q_dup hX dX8_undo_35 rfl ?_
    refine q_getI hX gf_X8_51 rfl dX8_undo_36 (at_of (n := 0) rfl) ?_
    refine q_iconst hX dX8_undo_39 (v := (nI 1)) (by decide) ?_
    refine q_isub hX dX8_undo_40 ?_
    replace h := wr_e h
    refine q_putI hX pf_X8_51 rfl dX8_undo_41 (at_of (n := 0) rfl) rfl rfl ?_
    generalize up2 _ _ _ _ = I3 at h ⊢
    refine q_aload_n hX dX8_undo_44 rfl ?_
    refine q_getR hX gf_X8_12 rfl dX8_undo_45 (at_of (n := 0) rfl) (b := 1) rfl ?_
    refine q_aload_n hX dX8_undo_48 rfl ?_
    refine q_getR hX gf_X8_22 rfl dX8_undo_49 (at_of (n := 0) rfl) (b := 49) rfl ?_
    refine q_aload_n hX dX8_undo_52 rfl ?_
    refine q_getI hX gf_X8_55 rfl dX8_undo_53 (at_of (n := 0) rfl) ?_
    obtain ⟨z4, h⟩ := h
    refine q_past hX dX8_undo_56 z4 ?_
    refine q_V_v hX hR (w_X1_copyFrom (hou_n (a := 1) rfl) (hou_past z4) h) lk_X8_338 (rc2_of (ci := 4) rfl rfl) dX8_undo_57 rfl rfl (Nat.le_of_ble_eq_true rfl) (by omega) (by omega) (by omega) ?_
    intro I5 h
    refine q_aload_n hX dX8_undo_60 rfl ?_
    refine q_getI hX gf_X8_51 rfl dX8_undo_61 (at_of (n := 0) rfl) ?_
    exact q_x_iret hX hT dX8_undo_64 h (by omega) (by omega)
  · replace h := ite_f q1 h
    exact q_throwW hX hT hf th_313 (text := "no change can be undone") (code := 64) (by decide +kernel) dX8_undo_7 dX8_undo_10 dX8_undo_11 dX8_undo_14 dX8_undo_17 (by decide) (by omega) h (by omega) (by omega)
set_option maxRecDepth 100000 in
set_option maxHeartbeats 4000000 in
theorem w_X8_save {l : Launch} {D : DT} {L : LT}  {I : IT} {K : Int32 → IT → Prop}  (h : f_X8_save  I K) : Con2 l D m_X8_save 4 [.ref 0] 0 0 I L (Pi L K) := by
  refine Con2.of (by decide +kernel) (by simp [Value.category]) (Nat.le_of_ble_eq_true rfl) (fun X hX hT => ?_)
  have hX : OK X D cX8_save "TeaHouse" 1 := hX
  have hT : RT X l D (some .int) (P2 (Pi L K)) 4 0 0 := hT
  have hR := hT.room
  change J2 X D 1 0 0 I L 0 [.ref 0] []
  rw [f_X8_save] at h
  refine q_aload_n hX dX8_save_0 rfl ?_
  refine q_getR hX gf_X8_19 rfl dX8_save_1 (at_of (n := 0) rfl) (b := 33) rfl ?_
  refine q_aload_n hX dX8_save_4 rfl ?_
  refine q_getR hX gf_X8_12 rfl dX8_save_5 (at_of (n := 0) rfl) (b := 1) rfl ?_
  refine q_V_v hX hR (w_X1_copyFrom (hou_n (a := 33) rfl) (hou_n (a := 1) rfl) h) lk_X8_338 (rc2_of (ci := 4) rfl rfl) dX8_save_8 rfl rfl (Nat.le_of_ble_eq_true rfl) (by omega) (by omega) (by omega) ?_
  intro I1 h
  refine q_aload_n hX dX8_save_11 rfl ?_
  refine q_iconst hX dX8_save_12 (v := (nI 1)) (by decide) ?_
  replace h := wr_e h
  refine q_putI hX pf_X8_47 rfl dX8_save_13 (at_of (n := 0) rfl) (nar_z (Or.inr rfl)) (fit_z (Or.inr rfl)) ?_
  generalize up2 _ _ _ _ = I2 at h ⊢
  refine q_aload_n hX dX8_save_16 rfl ?_
  refine q_getR hX gf_X8_19 rfl dX8_save_17 (at_of (n := 0) rfl) (b := 33) rfl ?_
  refine q_getR hX gf_X8_117 rfl dX8_save_20 (at_of (n := 0) rfl) (b := 34) rfl ?_
  refine q_getI hX gf_X8_120 rfl dX8_save_23 (at_of (n := 0) rfl) ?_
  exact q_iret hX hT dX8_save_26 h
set_option maxRecDepth 100000 in
set_option maxHeartbeats 4000000 in
theorem w_X8_restore {l : Launch} {D : DT} {L : LT}  {I : IT} {K : Int32 → IT → Prop} {KT : String → IT → Prop} (hf : l.stackTraces = false)  (h : f_X8_restore  I K KT) : Con2 l D m_X8_restore 6 [.ref 0] 1 6 I L (Px (Pi L K) L KT) := by
  refine Con2.of (by decide +kernel) (by simp [Value.category]) (Nat.le_of_ble_eq_true rfl) (fun X hX hT => ?_)
  have hX : OK X D cX8_restore "TeaHouse" 1 := hX
  have hT : RT X l D (some .int) (P2 (Px (Pi L K) L KT)) 6 1 6 := hT
  have hR := hT.room
  change J2 X D 1 0 0 I L 0 [.ref 0] []
  rw [f_X8_restore] at h
  refine q_aload_n hX dX8_restore_0 rfl ?_
  refine q_getI hX gf_X8_47 rfl dX8_restore_1 (at_of (n := 0) rfl) ?_
  refine q_if_ne hX dX8_restore_4 (tgt := 18) (by decide) (fun q1 => ?_) (fun q1 => ?_)
  · replace h := ite_f q1 h
    refine q_aload_n hX dX8_restore_18 rfl ?_
    refine q_getR hX gf_X8_12 rfl dX8_restore_19 (at_of (n := 0) rfl) (b := 1) rfl ?_
    refine q_aload_n hX dX8_restore_22 rfl ?_
    refine q_getR hX gf_X8_19 rfl dX8_restore_23 (at_of (n := 0) rfl) (b := 33) rfl ?_
    refine q_V_v hX hR (w_X1_copyFrom (hou_n (a := 1) rfl) (hou_n (a := 33) rfl) h) lk_X8_338 (rc2_of (ci := 4) rfl rfl) dX8_restore_26 rfl rfl (Nat.le_of_ble_eq_true rfl) (by omega) (by omega) (by omega) ?_
    intro I2 h
    refine q_aload_n hX dX8_restore_29 rfl ?_
    refine q_iconst hX dX8_restore_30 (v := (nI 0)) (by decide) ?_
    replace h := wr_e h
    refine q_putI hX pf_X8_51 rfl dX8_restore_31 (at_of (n := 0) rfl) rfl rfl ?_
    generalize up2 _ _ _ _ = I3 at h ⊢
    refine q_aload_n hX dX8_restore_34 rfl ?_
    refine q_getR hX gf_X8_12 rfl dX8_restore_35 (at_of (n := 0) rfl) (b := 1) rfl ?_
    refine q_getR hX gf_X8_117 rfl dX8_restore_38 (at_of (n := 0) rfl) (b := 2) rfl ?_
    refine q_getI hX gf_X8_120 rfl dX8_restore_41 (at_of (n := 0) rfl) ?_
    exact q_x_iret hX hT dX8_restore_44 h (by omega) (by omega)
  · replace h := ite_t q1 h
    exact q_throwW hX hT hf th_313 (text := "there is no saved copy") (code := 65) (by decide +kernel) dX8_restore_7 dX8_restore_10 dX8_restore_11 dX8_restore_14 dX8_restore_17 (by decide) (by omega) h (by omega) (by omega)
set_option maxRecDepth 100000 in
set_option maxHeartbeats 4000000 in
theorem w_X9_thrown {l : Launch} {D : DT} {L : LT}  {I : IT} {K : Int32 → Prop}  (h : f_X9_thrown  I K) : Con2 l D m_X9_thrown 1 [.ref 190] 0 0 I L (Pi L (fun x I' => I' = I ∧ K x)) := by
  refine Con2.of (by decide +kernel) (by simp [Value.category]) (Nat.le_of_ble_eq_true rfl) (fun X hX hT => ?_)
  have hX : OK X D cX9_thrown "TeaHouseModel" 1 := hX
  have hT : RT X l D (some .int) (P2 (Pi L (fun x I' => I' = I ∧ K x))) 1 0 0 := hT
  have hR := hT.room
  change J2 X D 1 0 0 I L 0 [.ref 190] []
  rw [f_X9_thrown] at h
  refine q_aload_n hX dX9_thrown_0 rfl ?_
  refine q_getI hX gf_X9_30 rfl dX9_thrown_1 (at_of (n := 0) rfl) ?_
  exact q_iretp hX hT dX9_thrown_4 h
set_option maxRecDepth 100000 in
set_option maxHeartbeats 4000000 in
theorem w_X9_in {l : Launch} {D : DT} {L : LT} {a0 : Int32} {a1 : Int32} {a2 : Int32} {I : IT} {K : Int32 → Prop}  (h : f_X9_in a0 a1 a2 I K) : Con2 l D m_X9_in 1 [.int a0, .int a1, .int a2] 0 0 I L (Pz L (fun x I' => I' = I ∧ K x)) := by
  refine Con2.of (by decide +kernel) (by simp [Value.category]) (Nat.le_of_ble_eq_true rfl) (fun X hX hT => ?_)
  have hX : OK X D cX9_in "TeaHouseModel" 3 := hX
  have hT : RT X l D (some .boolean) (P2 (Pz L (fun x I' => I' = I ∧ K x))) 1 0 0 := hT
  have hR := hT.room
  change J2 X D 3 0 0 I L 0 [.int a0, .int a1, .int a2] []
  rw [f_X9_in] at h
  refine q_iload_n hX dX9_in_0 rfl ?_
  refine q_iload_n hX dX9_in_1 rfl ?_
  refine q_icmp_lt hX dX9_in_2 (tgt := 14) (by decide) (fun q1 => ?_) (fun q1 => ?_)
  · replace h := ite_t q1 h
    refine q_iconst hX dX9_in_14 (v := (nI 0)) (by decide) ?_
    exact q_zretp hX hT dX9_in_15 (Or.inl rfl) h
  · replace h := ite_f q1 h
    refine q_iload_n hX dX9_in_5 rfl ?_
    refine q_iload_n hX dX9_in_6 rfl ?_
    refine q_icmp_gt hX dX9_in_7 (tgt := 14) (by decide) (fun q2 => ?_) (fun q2 => ?_)
    · replace h := ite_t q2 h
      refine q_iconst hX dX9_in_14 (v := (nI 0)) (by decide) ?_
      exact q_zretp hX hT dX9_in_15 (Or.inl rfl) h
    · replace h := ite_f q2 h
      refine q_iconst hX dX9_in_10 (v := (nI 1)) (by decide) ?_
      refine q_goto hX dX9_in_11 (tgt := 15) (by decide) ?_
      exact q_zretp hX hT dX9_in_15 (Or.inr rfl) h
set_option maxRecDepth 100000 in
set_option maxHeartbeats 4000000 in
theorem w_X9_copies_b2 {X : XT} {D : DT} {l : Launch} {L : LT} {a1 : Int32} {a2 : Int32} {K : IT → Prop} (hX : OK X D cX9_copies "TeaHouseModel" 4) (hT : RT X l D none (P2 (Pv L K)) 1 0 0)   : ∀ (n : Nat), ∀ (v3 : Int32) (I : IT), f_X9_copies_b2 a1 a2 K n v3 I → J2 X D 4 0 0 I L 2 [.ref 190, .int a1, .int a2, .int v3] [] := by
  have hR := hT.room
  intro n
  induction n with
  | zero => intro v3 I h; exact False.elim h
  | succ n ih =>
    intro v3 I h
    rw [f_X9_copies_b2] at h
    refine q_iload_n hX dX9_copies_2 rfl ?_
    refine q_bipush hX dX9_copies_3 (v := (nI 103)) (by decide) ?_
    refine q_icmp_ge hX dX9_copies_5 (tgt := 36) (by decide) (fun q1 => ?_) (fun q1 => ?_)
    · replace h := ite_t q1 h
      exact q_vret hX hT dX9_copies_36 h
    · replace h := ite_f q1 h
      refine q_aload_n hX dX9_copies_8 rfl ?_
      refine q_getR hX gf_X9_9 rfl dX9_copies_9 (at_of (n := 0) rfl) (b := 191) rfl ?_
      refine q_bipush hX dX9_copies_12 (v := (nI 103)) (by decide) ?_
      refine q_iload_n hX dX9_copies_14 rfl ?_
      refine q_imul hX dX9_copies_15 ?_
      refine q_iload_n hX dX9_copies_16 rfl ?_
      refine q_iadd hX dX9_copies_17 ?_
      refine q_aload_n hX dX9_copies_18 rfl ?_
      refine q_getR hX gf_X9_9 rfl dX9_copies_19 (at_of (n := 0) rfl) (b := 191) rfl ?_
      refine q_bipush hX dX9_copies_22 (v := (nI 103)) (by decide) ?_
      refine q_iload_n hX dX9_copies_24 rfl ?_
      refine q_imul hX dX9_copies_25 ?_
      refine q_iload_n hX dX9_copies_26 rfl ?_
      refine q_iadd hX dX9_copies_27 ?_
      obtain ⟨z2, h⟩ := h
      refine q_iald hX dX9_copies_28 (at_of (a := 191) (t := 22) (n := 1236) rfl) (inr_e z2) (inr_lt z2) (by decide) ?_
      obtain ⟨z3, h⟩ := h
      replace h := wr_e h
      refine q_iast hX dX9_copies_29 (at_of (a := 191) (t := 22) (n := 1236) rfl) (inr_e z3) (inr_lt z3) (by decide) rfl ?_
      generalize up2 _ _ _ _ = I4 at h ⊢
      replace h := bnd_e h
      refine q_iinc hX dX9_copies_30 (by decide) rfl (v := _ + nI 1) (ls' := [_, _, _, _]) rfl rfl ?_
      refine q_goto hX dX9_copies_33 (tgt := 2) (by decide) ?_
      exact q_dr (ih _ _  h) ⟨Or.inl rfl, Or.inl rfl, Or.inl rfl, Or.inl rfl, trivial⟩
set_option maxRecDepth 100000 in
set_option maxHeartbeats 4000000 in
theorem w_X9_copies {l : Launch} {D : DT} {L : LT} {a1 : Int32} {a2 : Int32} {I : IT} {K : IT → Prop}  (h : f_X9_copies a1 a2 I K) : Con2 l D m_X9_copies 1 [.ref 190, .int a1, .int a2] 0 0 I L (Pv L K) := by
  refine Con2.of (by decide +kernel) (by simp [Value.category]) (Nat.le_of_ble_eq_true rfl) (fun X hX hT => ?_)
  have hX : OK X D cX9_copies "TeaHouseModel" 4 := hX
  have hT : RT X l D none (P2 (Pv L K)) 1 0 0 := hT
  have hR := hT.room
  change J2 X D 4 0 0 I L 0 [.ref 190, .int a1, .int a2, .retAddr 0] []
  rw [f_X9_copies] at h
  refine q_iconst hX dX9_copies_0 (v := (nI 0)) (by decide) ?_
  refine q_istore_n hX dX9_copies_1 (by decide) (ls' := [_, _, _, _]) rfl ?_
  exact q_dr (w_X9_copies_b2 hX hT   _  _ _  h) ⟨Or.inl rfl, Or.inl rfl, Or.inl rfl, Or.inl rfl, trivial⟩
set_option maxRecDepth 100000 in
set_option maxHeartbeats 4000000 in
theorem w_X9_begins {l : Launch} {D : DT} {L : LT}  {I : IT} {K : IT → Prop}  (h : f_X9_begins  I K) : Con2 l D m_X9_begins 2 [.ref 190] 0 0 I L (Pv L K) := by
  refine Con2.of (by decide +kernel) (by simp [Value.category]) (Nat.le_of_ble_eq_true rfl) (fun X hX hT => ?_)
  have hX : OK X D cX9_begins "TeaHouseModel" 1 := hX
  have hT : RT X l D none (P2 (Pv L K)) 2 0 0 := hT
  have hR := hT.room
  change J2 X D 1 0 0 I L 0 [.ref 190] []
  rw [f_X9_begins] at h
  refine q_aload_n hX dX9_begins_0 rfl ?_
  refine q_iconst hX dX9_begins_1 (v := (nI 0)) (by decide) ?_
  refine q_bipush hX dX9_begins_2 (v := (nI 10)) (by decide) ?_
  refine q_V_v hX hR (w_X9_copies  h) lk_X9_33 (rc2_of (ci := 10) rfl rfl) dX9_begins_4 rfl rfl (Nat.le_of_ble_eq_true rfl) (by omega) (by omega) (by omega) ?_
  intro I1 h
  exact q_vret hX hT dX9_begins_7 h
set_option maxRecDepth 100000 in
set_option maxHeartbeats 4000000 in
theorem w_X9_ends_b71 {X : XT} {D : DT} {l : Launch} {L : LT} {a1 : Int32} {a2 : Int32} {a3 : Int32} {a4 : Int32} {a5 : Int32} {K : Int32 → IT → Prop} {X104 : IT → Prop} (hX : OK X D cX9_ends "TeaHouseModel" 7) (hT : RT X l D (some .int) (P2 (Pi L K)) 2 0 0)  (hx104 : ∀  (I : IT), X104 I → J2 X D 7 0 0 I L 104 [.ref 190, .retAddr 0, .retAddr 0, .retAddr 0, .retAddr 0, .retAddr 0, .retAddr 0] []) : ∀ (n : Nat), ∀ (v6 : Int32) (I : IT), f_X9_ends_b71 a1 a2 a3 a4 a5 X104 K n v6 I → J2 X D 7 0 0 I L 71 [.ref 190, .retAddr 0, .retAddr 0, .retAddr 0, .retAddr 0, .retAddr 0, .int v6] [] := by
  have hR := hT.room
  intro n
  induction n with
  | zero => intro v6 I h; exact False.elim h
  | succ n ih =>
    intro v6 I h
    rw [f_X9_ends_b71] at h
    refine q_iload hX dX9_ends_71 rfl ?_
    refine q_bipush hX dX9_ends_73 (v := (nI 8)) (by decide) ?_
    refine q_icmp_ge hX dX9_ends_75 (tgt := 94) (by decide) (fun q1 => ?_) (fun q1 => ?_)
    · replace h := ite_t q1 h
      refine q_aload_n hX dX9_ends_94 rfl ?_
      refine q_dup hX dX9_ends_95 rfl ?_
      refine q_getI hX gf_X9_37 rfl dX9_ends_96 (at_of (n := 0) rfl) ?_
      refine q_iconst hX dX9_ends_99 (v := (nI 1)) (by decide) ?_
      refine q_isub hX dX9_ends_100 ?_
      replace h := wr_e h
      refine q_putI hX pf_X9_37 rfl dX9_ends_101 (at_of (n := 0) rfl) rfl rfl ?_
      generalize up2 _ _ _ _ = I2 at h ⊢
      exact q_dr (hx104 _  h) ⟨Or.inl rfl, Or.inl rfl, Or.inl rfl, Or.inl rfl, Or.inl rfl, Or.inl rfl, Or.inr rfl, trivial⟩
    · replace h := ite_f q1 h
      refine q_aload_n hX dX9_ends_78 rfl ?_
      refine q_iload hX dX9_ends_79 rfl ?_
      refine q_iconst hX dX9_ends_81 (v := (nI 1)) (by decide) ?_
      refine q_iadd hX dX9_ends_82 ?_
      refine q_iload hX dX9_ends_83 rfl ?_
      refine q_V_v hX hR (w_X9_copies  h) lk_X9_33 (rc2_of (ci := 10) rfl rfl) dX9_ends_85 rfl rfl (Nat.le_of_ble_eq_true rfl) (by omega) (by omega) (by omega) ?_
      intro I3 h
      replace h := bnd_e h
      refine q_iinc hX dX9_ends_88 (by decide) rfl (v := _ + nI 1) (ls' := [_, _, _, _, _, _, _]) rfl rfl ?_
      refine q_goto hX dX9_ends_91 (tgt := 71) (by decide) ?_
      exact q_dr (ih _ _  h) ⟨Or.inl rfl, Or.inl rfl, Or.inl rfl, Or.inl rfl, Or.inl rfl, Or.inl rfl, Or.inl rfl, trivial⟩
set_option maxRecDepth 100000 in
set_option maxHeartbeats 4000000 in
theorem w_X9_ends_b104 {X : XT} {D : DT} {l : Launch} {L : LT} {a1 : Int32} {a2 : Int32} {a3 : Int32} {a4 : Int32} {a5 : Int32} {K : Int32 → IT → Prop} (hX : OK X D cX9_ends "TeaHouseModel" 7) (hT : RT X l D (some .int) (P2 (Pi L K)) 2 0 0)   : ∀ (I : IT), f_X9_ends_b104 a1 a2 a3 a4 a5 K I → J2 X D 7 0 0 I L 104 [.ref 190, .retAddr 0, .retAddr 0, .retAddr 0, .retAddr 0, .retAddr 0, .retAddr 0] [] := by
  have hR := hT.room
  intro I h
  rw [f_X9_ends_b104] at h
  refine q_aload_n hX dX9_ends_104 rfl ?_
  refine q_dup hX dX9_ends_105 rfl ?_
  refine q_getI hX gf_X9_37 rfl dX9_ends_106 (at_of (n := 0) rfl) ?_
  refine q_iconst hX dX9_ends_109 (v := (nI 1)) (by decide) ?_
  refine q_iadd hX dX9_ends_110 ?_
  replace h := wr_e h
  refine q_putI hX pf_X9_37 rfl dX9_ends_111 (at_of (n := 0) rfl) rfl rfl ?_
  generalize up2 _ _ _ _ = I1 at h ⊢
  refine q_aload_n hX dX9_ends_114 rfl ?_
  refine q_bipush hX dX9_ends_115 (v := (nI 10)) (by decide) ?_
  refine q_aload_n hX dX9_ends_117 rfl ?_
  refine q_getI hX gf_X9_37 rfl dX9_ends_118 (at_of (n := 0) rfl) ?_
  refine q_V_v hX hR (w_X9_copies  h) lk_X9_33 (rc2_of (ci := 10) rfl rfl) dX9_ends_121 rfl rfl (Nat.le_of_ble_eq_true rfl) (by omega) (by omega) (by omega) ?_
  intro I2 h
  refine q_aload_n hX dX9_ends_124 rfl ?_
  refine q_getI hX gf_X9_40 rfl dX9_ends_125 (at_of (n := 0) rfl) ?_
  exact q_iret hX hT dX9_ends_128 h
set_option maxRecDepth 100000 in
set_option maxHeartbeats 4000000 in
theorem w_X9_ends_b40 {X : XT} {D : DT} {l : Launch} {L : LT} {a1 : Int32} {a2 : Int32} {a3 : Int32} {a4 : Int32} {a5 : Int32} {K : Int32 → IT → Prop} (hX : OK X D cX9_ends "TeaHouseModel" 7) (hT : RT X l D (some .int) (P2 (Pi L K)) 2 0 0)   : ∀ (s1 : Int32) (I : IT), f_X9_ends_b40 a1 a2 a3 a4 a5 K s1 I → J2 X D 7 0 0 I L 40 [.ref 190, .retAddr 0, .retAddr 0, .retAddr 0, .retAddr 0, .retAddr 0, .retAddr 0] [.int s1, .ref 190] := by
  have hR := hT.room
  intro s1 I h
  rw [f_X9_ends_b40] at h
  replace h := wr_e h
  refine q_putI hX pf_X9_30 rfl dX9_ends_40 (at_of (n := 0) rfl) rfl rfl ?_
  generalize up2 _ _ _ _ = I1 at h ⊢
  refine q_aload_n hX dX9_ends_43 rfl ?_
  refine q_getI hX gf_X9_30 rfl dX9_ends_44 (at_of (n := 0) rfl) ?_
  refine q_if_eq hX dX9_ends_47 (tgt := 59) (by decide) (fun q2 => ?_) (fun q2 => ?_)
  · replace h := ite_t q2 h
    refine q_aload_n hX dX9_ends_59 rfl ?_
    refine q_getI hX gf_X9_37 rfl dX9_ends_60 (at_of (n := 0) rfl) ?_
    refine q_bipush hX dX9_ends_63 (v := (nI 8)) (by decide) ?_
    refine q_icmp_ne hX dX9_ends_65 (tgt := 104) (by decide) (fun q3 => ?_) (fun q3 => ?_)
    · replace h := ite_f q3 h
      exact q_dr (w_X9_ends_b104 hX hT    _  h) ⟨Or.inl rfl, Or.inl rfl, Or.inl rfl, Or.inl rfl, Or.inl rfl, Or.inl rfl, Or.inl rfl, trivial⟩
    · replace h := ite_t q3 h
      refine q_iconst hX dX9_ends_68 (v := (nI 1)) (by decide) ?_
      refine q_istore hX dX9_ends_69 (by decide) (ls' := [_, _, _, _, _, _, _]) rfl ?_
      exact q_dr (w_X9_ends_b71 hX hT  (fun _ h => w_X9_ends_b104 hX hT    _  h) _  _ _  h) ⟨Or.inl rfl, Or.inl rfl, Or.inl rfl, Or.inl rfl, Or.inl rfl, Or.inl rfl, Or.inl rfl, trivial⟩
  · replace h := ite_f q2 h
    refine q_aload_n hX dX9_ends_50 rfl ?_
    refine q_bipush hX dX9_ends_51 (v := (nI 10)) (by decide) ?_
    refine q_iconst hX dX9_ends_53 (v := (nI 0)) (by decide) ?_
    refine q_V_v hX hR (w_X9_copies  h) lk_X9_33 (rc2_of (ci := 10) rfl rfl) dX9_ends_54 rfl rfl (Nat.le_of_ble_eq_true rfl) (by omega) (by omega) (by omega) ?_
    intro I4 h
    refine q_iconst hX dX9_ends_57 (v := (nI 0)) (by decide) ?_
    exact q_iret hX hT dX9_ends_58 h
set_option maxRecDepth 100000 in
set_option maxHeartbeats 4000000 in
theorem w_X9_ends {l : Launch} {D : DT} {L : LT} {a1 : Int32} {a2 : Int32} {a3 : Int32} {a4 : Int32} {a5 : Int32} {I : IT} {K : Int32 → IT → Prop}  (h : f_X9_ends a1 a2 a3 a4 a5 I K) : Con2 l D m_X9_ends 2 [.ref 190, .int a1, .int a2, .int a3, .int a4, .int a5] 0 0 I L (Pi L K) := by
  refine Con2.of (by decide +kernel) (by simp [Value.category]) (Nat.le_of_ble_eq_true rfl) (fun X hX hT => ?_)
  have hX : OK X D cX9_ends "TeaHouseModel" 7 := hX
  have hT : RT X l D (some .int) (P2 (Pi L K)) 2 0 0 := hT
  have hR := hT.room
  change J2 X D 7 0 0 I L 0 [.ref 190, .int a1, .int a2, .int a3, .int a4, .int a5, .retAddr 0] []
  rw [f_X9_ends] at h
  refine q_aload_n hX dX9_ends_0 rfl ?_
  refine q_iload_n hX dX9_ends_1 rfl ?_
  refine q_iconst hX dX9_ends_2 (v := (nI 1)) (by decide) ?_
  refine q_icmp_ne hX dX9_ends_3 (tgt := 10) (by decide) (fun q1 => ?_) (fun q1 => ?_)
  · replace h := ite_f q1 h
    refine q_iload_n hX dX9_ends_10 rfl ?_
    refine q_iconst hX dX9_ends_11 (v := (nI 2)) (by decide) ?_
    refine q_icmp_ne hX dX9_ends_12 (tgt := 19) (by decide) (fun q2 => ?_) (fun q2 => ?_)
    · replace h := ite_f q2 h
      refine q_iload_n hX dX9_ends_19 rfl ?_
      refine q_iconst hX dX9_ends_20 (v := (nI 3)) (by decide) ?_
      refine q_icmp_ne hX dX9_ends_21 (tgt := 29) (by decide) (fun q3 => ?_) (fun q3 => ?_)
      · replace h := ite_f q3 h
        refine q_iload_n hX dX9_ends_29 rfl ?_
        refine q_iconst hX dX9_ends_30 (v := (nI 4)) (by decide) ?_
        refine q_icmp_ne hX dX9_ends_31 (tgt := 39) (by decide) (fun q4 => ?_) (fun q4 => ?_)
        · replace h := ite_f q4 h
          refine q_iconst hX dX9_ends_39 (v := (nI 0)) (by decide) ?_
          exact q_dr (w_X9_ends_b40 hX hT    _ _  h) ⟨Or.inl rfl, Or.inr rfl, Or.inr rfl, Or.inr rfl, Or.inr rfl, Or.inr rfl, Or.inl rfl, trivial⟩
        · replace h := ite_t q4 h
          refine q_iload hX dX9_ends_34 rfl ?_
          refine q_goto hX dX9_ends_36 (tgt := 40) (by decide) ?_
          exact q_dr (w_X9_ends_b40 hX hT    _ _  h) ⟨Or.inl rfl, Or.inr rfl, Or.inr rfl, Or.inr rfl, Or.inr rfl, Or.inr rfl, Or.inl rfl, trivial⟩
      · replace h := ite_t q3 h
        refine q_iload hX dX9_ends_24 rfl ?_
        refine q_goto hX dX9_ends_26 (tgt := 40) (by decide) ?_
        exact q_dr (w_X9_ends_b40 hX hT    _ _  h) ⟨Or.inl rfl, Or.inr rfl, Or.inr rfl, Or.inr rfl, Or.inr rfl, Or.inr rfl, Or.inl rfl, trivial⟩
    · replace h := ite_t q2 h
      refine q_iload_n hX dX9_ends_15 rfl ?_
      refine q_goto hX dX9_ends_16 (tgt := 40) (by decide) ?_
      exact q_dr (w_X9_ends_b40 hX hT    _ _  h) ⟨Or.inl rfl, Or.inr rfl, Or.inr rfl, Or.inr rfl, Or.inr rfl, Or.inr rfl, Or.inl rfl, trivial⟩
  · replace h := ite_t q1 h
    refine q_iload_n hX dX9_ends_6 rfl ?_
    refine q_goto hX dX9_ends_7 (tgt := 40) (by decide) ?_
    exact q_dr (w_X9_ends_b40 hX hT    _ _  h) ⟨Or.inl rfl, Or.inr rfl, Or.inr rfl, Or.inr rfl, Or.inr rfl, Or.inr rfl, Or.inl rfl, trivial⟩
set_option maxRecDepth 100000 in
set_option maxHeartbeats 4000000 in
theorem w_X9_isFine_b10 {X : XT} {D : DT} {l : Launch} {L : LT} {a1 : Int32} {K : Int32 → IT → Prop} (hX : OK X D cX9_isFine "TeaHouseModel" 2) (hT : RT X l D (some .boolean) (P2 (Pz L K)) 1 0 0) (ha1 : isZ a1)  : ∀ (s1 : Int32) (I : IT), isZ s1 → isC s1 → f_X9_isFine_b10 a1 K s1 I → J2 X D 2 0 0 I L 10 [.retAddr 0, .int a1] [.int s1, .ref 190] := by
  have hR := hT.room
  intro s1 I hzs1 hcs1 h
  rw [f_X9_isFine_b10] at h
  replace h := wr_e h
  refine q_putI hX pf_X9_30 rfl dX9_isFine_10 (at_of (n := 0) rfl) rfl rfl ?_
  generalize up2 _ _ _ _ = I1 at h ⊢
  refine q_iload_n hX dX9_isFine_13 rfl ?_
  exact q_zret hX hT dX9_isFine_14 ha1 h
set_option maxRecDepth 100000 in
set_option maxHeartbeats 4000000 in
theorem w_X9_isFine {l : Launch} {D : DT} {L : LT} {a1 : Int32} {I : IT} {K : Int32 → IT → Prop} (ha1 : isZ a1) (h : f_X9_isFine a1 I K) : Con2 l D m_X9_isFine 1 [.ref 190, .int a1] 0 0 I L (Pz L K) := by
  refine Con2.of (by decide +kernel) (by simp [Value.category]) (Nat.le_of_ble_eq_true rfl) (fun X hX hT => ?_)
  have hX : OK X D cX9_isFine "TeaHouseModel" 2 := hX
  have hT : RT X l D (some .boolean) (P2 (Pz L K)) 1 0 0 := hT
  have hR := hT.room
  change J2 X D 2 0 0 I L 0 [.ref 190, .int a1] []
  rw [f_X9_isFine] at h
  refine q_aload_n hX dX9_isFine_0 rfl ?_
  refine q_iload_n hX dX9_isFine_1 rfl ?_
  refine q_if_eq hX dX9_isFine_2 (tgt := 9) (by decide) (fun q1 => ?_) (fun q1 => ?_)
  · replace h := ite_t q1 h
    refine q_iconst hX dX9_isFine_9 (v := (nI 1)) (by decide) ?_
    exact q_dr (w_X9_isFine_b10 hX hT ha1   _ _ (Or.inr rfl) (isC_n (by decide)) h) ⟨Or.inr rfl, Or.inl rfl, trivial⟩
  · replace h := ite_f q1 h
    refine q_iconst hX dX9_isFine_5 (v := (nI 0)) (by decide) ?_
    refine q_goto hX dX9_isFine_6 (tgt := 10) (by decide) ?_
    exact q_dr (w_X9_isFine_b10 hX hT ha1   _ _ (Or.inl rfl) (isC_n (by decide)) h) ⟨Or.inr rfl, Or.inl rfl, trivial⟩
set_option maxRecDepth 100000 in
set_option maxHeartbeats 4000000 in
theorem w_X9_eighths {l : Launch} {D : DT} {L : LT} {a0 : Int32} {I : IT} {K : UInt32 → Prop}  (h : f_X9_eighths a0 I K) : Con2 l D m_X9_eighths 1 [.int a0] 0 0 I L (Pf L (fun x I' => I' = I ∧ K x)) := by
  refine Con2.of (by decide +kernel) (by simp [Value.category]) (Nat.le_of_ble_eq_true rfl) (fun X hX hT => ?_)
  have hX : OK X D cX9_eighths "TeaHouseModel" 1 := hX
  have hT : RT X l D (some .float) (P2 (Pf L (fun x I' => I' = I ∧ K x))) 1 0 0 := hT
  have hR := hT.room
  change J2 X D 1 0 0 I L 0 [.int a0] []
  rw [f_X9_eighths] at h
  refine q_iload_n hX dX9_eighths_0 rfl ?_
  refine q_i2f hX dX9_eighths_1 ?_
  refine q_ldcf hX kc_X9_43 dX9_eighths_2 ?_
  obtain ⟨z1, h⟩ := h
  refine q_fdiv hX dX9_eighths_4 z1 ?_
  exact q_fretp hX hT dX9_eighths_5 h
set_option maxRecDepth 100000 in
set_option maxHeartbeats 4000000 in
theorem w_X9_halves {l : Launch} {D : DT} {L : LT} {a0 : Int32} {I : IT} {K : UInt32 → Prop}  (h : f_X9_halves a0 I K) : Con2 l D m_X9_halves 1 [.int a0] 0 0 I L (Pf L (fun x I' => I' = I ∧ K x)) := by
  refine Con2.of (by decide +kernel) (by simp [Value.category]) (Nat.le_of_ble_eq_true rfl) (fun X hX hT => ?_)
  have hX : OK X D cX9_halves "TeaHouseModel" 1 := hX
  have hT : RT X l D (some .float) (P2 (Pf L (fun x I' => I' = I ∧ K x))) 1 0 0 := hT
  have hR := hT.room
  change J2 X D 1 0 0 I L 0 [.int a0] []
  rw [f_X9_halves] at h
  refine q_iload_n hX dX9_halves_0 rfl ?_
  refine q_i2f hX dX9_halves_1 ?_
  refine q_fconst2 hX dX9_halves_2 ?_
  obtain ⟨z1, h⟩ := h
  refine q_fdiv hX dX9_halves_3 z1 ?_
  exact q_fretp hX hT dX9_halves_4 h
set_option maxRecDepth 100000 in
set_option maxHeartbeats 4000000 in
theorem w_X9_k {l : Launch} {D : DT} {L : LT} {a1 : Int32} {a2 : Int32} {I : IT} {K : Int32 → Prop}  (h : f_X9_k a1 a2 I K) : Con2 l D m_X9_k 1 [.ref 190, .int a1, .int a2] 0 0 I L (Pi L (fun x I' => I' = I ∧ K x)) := by
  refine Con2.of (by decide +kernel) (by simp [Value.category]) (Nat.le_of_ble_eq_true rfl) (fun X hX hT => ?_)
  have hX : OK X D cX9_k "TeaHouseModel" 3 := hX
  have hT : RT X l D (some .int) (P2 (Pi L (fun x I' => I' = I ∧ K x))) 1 0 0 := hT
  have hR := hT.room
  change J2 X D 3 0 0 I L 0 [.ref 190, .int a1, .int a2] []
  rw [f_X9_k] at h
  refine q_aload_n hX dX9_k_0 rfl ?_
  refine q_getR hX gf_X9_9 rfl dX9_k_1 (at_of (n := 0) rfl) (b := 191) rfl ?_
  refine q_bipush hX dX9_k_4 (v := (nI 33)) (by decide) ?_
  refine q_iconst hX dX9_k_6 (v := (nI 5)) (by decide) ?_
  refine q_iload_n hX dX9_k_7 rfl ?_
  refine q_imul hX dX9_k_8 ?_
  refine q_iadd hX dX9_k_9 ?_
  refine q_iload_n hX dX9_k_10 rfl ?_
  refine q_iadd hX dX9_k_11 ?_
  obtain ⟨z1, h⟩ := h
  refine q_iald hX dX9_k_12 (at_of (a := 191) (t := 22) (n := 1236) rfl) (inr_e z1) (inr_lt z1) (by decide) ?_
  exact q_iretp hX hT dX9_k_13 h
set_option maxRecDepth 100000 in
set_option maxHeartbeats 4000000 in
theorem w_X9_set {l : Launch} {D : DT} {L : LT} {a1 : Int32} {a2 : Int32} {a3 : Int32} {I : IT} {K : IT → Prop}  (h : f_X9_set a1 a2 a3 I K) : Con2 l D m_X9_set 1 [.ref 190, .int a1, .int a2, .int a3] 0 0 I L (Pv L K) := by
  refine Con2.of (by decide +kernel) (by simp [Value.category]) (Nat.le_of_ble_eq_true rfl) (fun X hX hT => ?_)
  have hX : OK X D cX9_set "TeaHouseModel" 4 := hX
  have hT : RT X l D none (P2 (Pv L K)) 1 0 0 := hT
  have hR := hT.room
  change J2 X D 4 0 0 I L 0 [.ref 190, .int a1, .int a2, .int a3] []
  rw [f_X9_set] at h
  refine q_aload_n hX dX9_set_0 rfl ?_
  refine q_getR hX gf_X9_9 rfl dX9_set_1 (at_of (n := 0) rfl) (b := 191) rfl ?_
  refine q_bipush hX dX9_set_4 (v := (nI 33)) (by decide) ?_
  refine q_iconst hX dX9_set_6 (v := (nI 5)) (by decide) ?_
  refine q_iload_n hX dX9_set_7 rfl ?_
  refine q_imul hX dX9_set_8 ?_
  refine q_iadd hX dX9_set_9 ?_
  refine q_iload_n hX dX9_set_10 rfl ?_
  refine q_iadd hX dX9_set_11 ?_
  refine q_iload_n hX dX9_set_12 rfl ?_
  obtain ⟨z1, h⟩ := h
  replace h := wr_e h
  refine q_iast hX dX9_set_13 (at_of (a := 191) (t := 22) (n := 1236) rfl) (inr_e z1) (inr_lt z1) (by decide) rfl ?_
  generalize up2 _ _ _ _ = I2 at h ⊢
  exact q_vret hX hT dX9_set_14 h
set_option maxRecDepth 100000 in
set_option maxHeartbeats 4000000 in
theorem w_X9_o {l : Launch} {D : DT} {L : LT} {a1 : Int32} {a2 : Int32} {I : IT} {K : Int32 → Prop}  (h : f_X9_o a1 a2 I K) : Con2 l D m_X9_o 1 [.ref 190, .int a1, .int a2] 0 0 I L (Pi L (fun x I' => I' = I ∧ K x)) := by
  refine Con2.of (by decide +kernel) (by simp [Value.category]) (Nat.le_of_ble_eq_true rfl) (fun X hX hT => ?_)
  have hX : OK X D cX9_o "TeaHouseModel" 3 := hX
  have hT : RT X l D (some .int) (P2 (Pi L (fun x I' => I' = I ∧ K x))) 1 0 0 := hT
  have hR := hT.room
  change J2 X D 3 0 0 I L 0 [.ref 190, .int a1, .int a2] []
  rw [f_X9_o] at h
  refine q_aload_n hX dX9_o_0 rfl ?_
  refine q_getR hX gf_X9_9 rfl dX9_o_1 (at_of (n := 0) rfl) (b := 191) rfl ?_
  refine q_bipush hX dX9_o_4 (v := (nI 53)) (by decide) ?_
  refine q_iconst hX dX9_o_6 (v := (nI 5)) (by decide) ?_
  refine q_iload_n hX dX9_o_7 rfl ?_
  refine q_imul hX dX9_o_8 ?_
  refine q_iadd hX dX9_o_9 ?_
  refine q_iload_n hX dX9_o_10 rfl ?_
  refine q_iadd hX dX9_o_11 ?_
  obtain ⟨z1, h⟩ := h
  refine q_iald hX dX9_o_12 (at_of (a := 191) (t := 22) (n := 1236) rfl) (inr_e z1) (inr_lt z1) (by decide) ?_
  exact q_iretp hX hT dX9_o_13 h
set_option maxRecDepth 100000 in
set_option maxHeartbeats 4000000 in
theorem w_X9_isKettle {l : Launch} {D : DT} {L : LT} {a1 : Int32} {I : IT} {K : Int32 → Prop}  (h : f_X9_isKettle a1 I K) : Con2 l D m_X9_isKettle 2 [.ref 190, .int a1] 0 0 I L (Pz L (fun x I' => I' = I ∧ K x)) := by
  refine Con2.of (by decide +kernel) (by simp [Value.category]) (Nat.le_of_ble_eq_true rfl) (fun X hX hT => ?_)
  have hX : OK X D cX9_isKettle "TeaHouseModel" 2 := hX
  have hT : RT X l D (some .boolean) (P2 (Pz L (fun x I' => I' = I ∧ K x))) 2 0 0 := hT
  have hR := hT.room
  change J2 X D 2 0 0 I L 0 [.ref 190, .int a1] []
  rw [f_X9_isKettle] at h
  refine q_iload_n hX dX9_isKettle_0 rfl ?_
  refine q_iconst hX dX9_isKettle_1 (v := (nI 0)) (by decide) ?_
  refine q_aload_n hX dX9_isKettle_2 rfl ?_
  refine q_getR hX gf_X9_9 rfl dX9_isKettle_3 (at_of (n := 0) rfl) (b := 191) rfl ?_
  refine q_iconst hX dX9_isKettle_6 (v := (nI 1)) (by decide) ?_
  refine q_iald hX dX9_isKettle_7 (at_of (a := 191) (t := 22) (n := 1236) rfl) (j := 1) rfl (by decide) (by decide) ?_
  refine q_iconst hX dX9_isKettle_8 (v := (nI 1)) (by decide) ?_
  refine q_isub hX dX9_isKettle_9 ?_
  refine q_S_zp hX hR (w_X9_in  h) lk_X9_44 dX9_isKettle_10 rfl rfl (Nat.le_of_ble_eq_true rfl) (by omega) (by omega) (by omega) ?_
  intro x1 hrx1 h
  exact q_zretp hX hT dX9_isKettle_13 hrx1 h
set_option maxRecDepth 100000 in
set_option maxHeartbeats 4000000 in
theorem w_X9_find_b2 {X : XT} {D : DT} {l : Launch} {L : LT} {a1 : Int32} {I : IT} {K : Int32 → Prop} (hX : OK X D cX9_find "TeaHouseModel" 3) (hT : RT X l D (some .int) (P2 (Pi L (fun x I' => I' = I ∧ K x))) 2 0 0)   : ∀ (n : Nat), ∀ (v2 : Int32), f_X9_find_b2 a1 I K n v2 → J2 X D 3 0 0 I L 2 [.ref 190, .int a1, .int v2] [] := by
  have hR := hT.room
  intro n
  induction n with
  | zero => intro v2 h; exact False.elim h
  | succ n ih =>
    intro v2 h
    rw [f_X9_find_b2] at h
    refine q_iload_n hX dX9_find_2 rfl ?_
    refine q_aload_n hX dX9_find_3 rfl ?_
    refine q_getR hX gf_X9_9 rfl dX9_find_4 (at_of (n := 0) rfl) (b := 191) rfl ?_
    refine q_iconst hX dX9_find_7 (v := (nI 2)) (by decide) ?_
    refine q_iald hX dX9_find_8 (at_of (a := 191) (t := 22) (n := 1236) rfl) (j := 2) rfl (by decide) (by decide) ?_
    refine q_icmp_ge hX dX9_find_9 (tgt := 30) (by decide) (fun q1 => ?_) (fun q1 => ?_)
    · replace h := ite_t q1 h
      refine q_iconst hX dX9_find_30 (v := (-1)) (by decide) ?_
      exact q_iretp hX hT dX9_find_31 h
    · replace h := ite_f q1 h
      refine q_aload_n hX dX9_find_12 rfl ?_
      refine q_iload_n hX dX9_find_13 rfl ?_
      refine q_iconst hX dX9_find_14 (v := (nI 0)) (by decide) ?_
      refine q_V_ip hX hR (w_X9_o  h) lk_X9_48 (rc2_of (ci := 10) rfl rfl) dX9_find_15 rfl rfl (Nat.le_of_ble_eq_true rfl) (by omega) (by omega) (by omega) ?_
      intro x2 h
      refine q_iload_n hX dX9_find_18 rfl ?_
      refine q_icmp_ne hX dX9_find_19 (tgt := 24) (by decide) (fun q3 => ?_) (fun q3 => ?_)
      · replace h := ite_f q3 h
        replace h := bnd_e h
        refine q_iinc hX dX9_find_24 (by decide) rfl (v := _ + nI 1) (ls' := [_, _, _]) rfl rfl ?_
        refine q_goto hX dX9_find_27 (tgt := 2) (by decide) ?_
        exact q_dr (ih _  h) ⟨Or.inl rfl, Or.inl rfl, Or.inl rfl, trivial⟩
      · replace h := ite_t q3 h
        refine q_iload_n hX dX9_find_22 rfl ?_
        exact q_iretp hX hT dX9_find_23 h
set_option maxRecDepth 100000 in
set_option maxHeartbeats 4000000 in
theorem w_X9_find {l : Launch} {D : DT} {L : LT} {a1 : Int32} {I : IT} {K : Int32 → Prop}  (h : f_X9_find a1 I K) : Con2 l D m_X9_find 2 [.ref 190, .int a1] 0 0 I L (Pi L (fun x I' => I' = I ∧ K x)) := by
  refine Con2.of (by decide +kernel) (by simp [Value.category]) (Nat.le_of_ble_eq_true rfl) (fun X hX hT => ?_)
  have hX : OK X D cX9_find "TeaHouseModel" 3 := hX
  have hT : RT X l D (some .int) (P2 (Pi L (fun x I' => I' = I ∧ K x))) 2 0 0 := hT
  have hR := hT.room
  change J2 X D 3 0 0 I L 0 [.ref 190, .int a1, .retAddr 0] []
  rw [f_X9_find] at h
  refine q_iconst hX dX9_find_0 (v := (nI 0)) (by decide) ?_
  refine q_istore_n hX dX9_find_1 (by decide) (ls' := [_, _, _]) rfl ?_
  exact q_dr (w_X9_find_b2 hX hT   _  _  h) ⟨Or.inl rfl, Or.inl rfl, Or.inl rfl, trivial⟩
set_option maxRecDepth 100000 in
set_option maxHeartbeats 4000000 in
theorem w_X9_isAhead {l : Launch} {D : DT} {L : LT} {a1 : Int32} {a2 : Int32} {I : IT} {K : Int32 → Prop}  (h : f_X9_isAhead a1 a2 I K) : Con2 l D m_X9_isAhead 2 [.ref 190, .int a1, .int a2] 0 0 I L (Pz L (fun x I' => I' = I ∧ K x)) := by
  refine Con2.of (by decide +kernel) (by simp [Value.category]) (Nat.le_of_ble_eq_true rfl) (fun X hX hT => ?_)
  have hX : OK X D cX9_isAhead "TeaHouseModel" 3 := hX
  have hT : RT X l D (some .boolean) (P2 (Pz L (fun x I' => I' = I ∧ K x))) 2 0 0 := hT
  have hR := hT.room
  change J2 X D 3 0 0 I L 0 [.ref 190, .int a1, .int a2] []
  rw [f_X9_isAhead] at h
  refine q_aload_n hX dX9_isAhead_0 rfl ?_
  refine q_iload_n hX dX9_isAhead_1 rfl ?_
  refine q_iconst hX dX9_isAhead_2 (v := (nI 4)) (by decide) ?_
  refine q_V_ip hX hR (w_X9_o  h) lk_X9_48 (rc2_of (ci := 10) rfl rfl) dX9_isAhead_3 rfl rfl (Nat.le_of_ble_eq_true rfl) (by omega) (by omega) (by omega) ?_
  intro x1 h
  refine q_aload_n hX dX9_isAhead_6 rfl ?_
  refine q_iload_n hX dX9_isAhead_7 rfl ?_
  refine q_iconst hX dX9_isAhead_8 (v := (nI 4)) (by decide) ?_
  refine q_V_ip hX hR (w_X9_o  h) lk_X9_48 (rc2_of (ci := 10) rfl rfl) dX9_isAhead_9 rfl rfl (Nat.le_of_ble_eq_true rfl) (by omega) (by omega) (by omega) ?_
  intro x2 h
  refine q_icmp_gt hX dX9_isAhead_12 (tgt := 45) (by decide) (fun q3 => ?_) (fun q3 => ?_)
  · replace h := ite_t q3 h
    refine q_iconst hX dX9_isAhead_45 (v := (nI 1)) (by decide) ?_
    refine q_goto hX dX9_isAhead_46 (tgt := 50) (by decide) ?_
    exact q_zretp hX hT dX9_isAhead_50 (Or.inr rfl) h
  · replace h := ite_f q3 h
    refine q_aload_n hX dX9_isAhead_15 rfl ?_
    refine q_iload_n hX dX9_isAhead_16 rfl ?_
    refine q_iconst hX dX9_isAhead_17 (v := (nI 4)) (by decide) ?_
    refine q_V_ip hX hR (w_X9_o  h) lk_X9_48 (rc2_of (ci := 10) rfl rfl) dX9_isAhead_18 rfl rfl (Nat.le_of_ble_eq_true rfl) (by omega) (by omega) (by omega) ?_
    intro x4 h
    refine q_aload_n hX dX9_isAhead_21 rfl ?_
    refine q_iload_n hX dX9_isAhead_22 rfl ?_
    refine q_iconst hX dX9_isAhead_23 (v := (nI 4)) (by decide) ?_
    refine q_V_ip hX hR (w_X9_o  h) lk_X9_48 (rc2_of (ci := 10) rfl rfl) dX9_isAhead_24 rfl rfl (Nat.le_of_ble_eq_true rfl) (by omega) (by omega) (by omega) ?_
    intro x5 h
    refine q_icmp_ne hX dX9_isAhead_27 (tgt := 49) (by decide) (fun q6 => ?_) (fun q6 => ?_)
    · replace h := ite_f q6 h
      refine q_iconst hX dX9_isAhead_49 (v := (nI 0)) (by decide) ?_
      exact q_zretp hX hT dX9_isAhead_50 (Or.inl rfl) h
    · replace h := ite_t q6 h
      refine q_aload_n hX dX9_isAhead_30 rfl ?_
      refine q_iload_n hX dX9_isAhead_31 rfl ?_
      refine q_iconst hX dX9_isAhead_32 (v := (nI 0)) (by decide) ?_
      refine q_V_ip hX hR (w_X9_o  h) lk_X9_48 (rc2_of (ci := 10) rfl rfl) dX9_isAhead_33 rfl rfl (Nat.le_of_ble_eq_true rfl) (by omega) (by omega) (by omega) ?_
      intro x7 h
      refine q_aload_n hX dX9_isAhead_36 rfl ?_
      refine q_iload_n hX dX9_isAhead_37 rfl ?_
      refine q_iconst hX dX9_isAhead_38 (v := (nI 0)) (by decide) ?_
      refine q_V_ip hX hR (w_X9_o  h) lk_X9_48 (rc2_of (ci := 10) rfl rfl) dX9_isAhead_39 rfl rfl (Nat.le_of_ble_eq_true rfl) (by omega) (by omega) (by omega) ?_
      intro x8 h
      refine q_icmp_ge hX dX9_isAhead_42 (tgt := 49) (by decide) (fun q9 => ?_) (fun q9 => ?_)
      · replace h := ite_t q9 h
        refine q_iconst hX dX9_isAhead_49 (v := (nI 0)) (by decide) ?_
        exact q_zretp hX hT dX9_isAhead_50 (Or.inl rfl) h
      · replace h := ite_f q9 h
        refine q_iconst hX dX9_isAhead_45 (v := (nI 1)) (by decide) ?_
        refine q_goto hX dX9_isAhead_46 (tgt := 50) (by decide) ?_
        exact q_zretp hX hT dX9_isAhead_50 (Or.inr rfl) h
set_option maxRecDepth 100000 in
set_option maxHeartbeats 4000000 in
theorem w_X9_rankOf_b29 {X : XT} {D : DT} {l : Launch} {L : LT} {a1 : Int32} {I : IT} {K : Int32 → Prop} {X4 : Int32 → Int32 → Prop} (hX : OK X D cX9_rankOf "TeaHouseModel" 4) (hT : RT X l D (some .int) (P2 (Pi L (fun x I' => I' = I ∧ K x))) 3 0 0)  (hx4 : ∀ (v2 : Int32) (v3 : Int32), X4 v2 v3 → J2 X D 4 0 0 I L 4 [.ref 190, .int a1, .int v2, .int v3] []) : ∀ (v3 : Int32) (s0 : Int32) (s1 : Int32), isZ s1 → isC s1 → f_X9_rankOf_b29 a1 I X4 K v3 s0 s1 → J2 X D 4 0 0 I L 29 [.ref 190, .int a1, .retAddr 0, .int v3] [.int s1, .int s0] := by
  have hR := hT.room
  intro v3 s0 s1 hzs1 hcs1 h
  rw [f_X9_rankOf_b29] at h
  refine q_iadd hX dX9_rankOf_29 ?_
  replace h := bnd_e h
  refine q_istore_n hX dX9_rankOf_30 (by decide) (ls' := [_, _, _, _]) rfl ?_
  replace h := bnd_e h
  refine q_iinc hX dX9_rankOf_31 (by decide) rfl (v := _ + nI 1) (ls' := [_, _, _, _]) rfl rfl ?_
  refine q_goto hX dX9_rankOf_34 (tgt := 4) (by decide) ?_
  exact q_dr (hx4 _ _  h) ⟨Or.inl rfl, Or.inl rfl, Or.inl rfl, Or.inl rfl, trivial⟩
set_option maxRecDepth 100000 in
set_option maxHeartbeats 4000000 in
theorem w_X9_rankOf_b4 {X : XT} {D : DT} {l : Launch} {L : LT} {a1 : Int32} {I : IT} {K : Int32 → Prop} (hX : OK X D cX9_rankOf "TeaHouseModel" 4) (hT : RT X l D (some .int) (P2 (Pi L (fun x I' => I' = I ∧ K x))) 3 0 0)   : ∀ (n : Nat), ∀ (v2 : Int32) (v3 : Int32), f_X9_rankOf_b4 a1 I K n v2 v3 → J2 X D 4 0 0 I L 4 [.ref 190, .int a1, .int v2, .int v3] [] := by
  have hR := hT.room
  intro n
  induction n with
  | zero => intro v2 v3 h; exact False.elim h
  | succ n ih =>
    intro v2 v3 h
    rw [f_X9_rankOf_b4] at h
    refine q_iload_n hX dX9_rankOf_4 rfl ?_
    refine q_aload_n hX dX9_rankOf_5 rfl ?_
    refine q_getR hX gf_X9_9 rfl dX9_rankOf_6 (at_of (n := 0) rfl) (b := 191) rfl ?_
    refine q_iconst hX dX9_rankOf_9 (v := (nI 2)) (by decide) ?_
    refine q_iald hX dX9_rankOf_10 (at_of (a := 191) (t := 22) (n := 1236) rfl) (j := 2) rfl (by decide) (by decide) ?_
    refine q_icmp_ge hX dX9_rankOf_11 (tgt := 37) (by decide) (fun q1 => ?_) (fun q1 => ?_)
    · replace h := ite_t q1 h
      refine q_iload_n hX dX9_rankOf_37 rfl ?_
      exact q_iretp hX hT dX9_rankOf_38 h
    · replace h := ite_f q1 h
      refine q_iload_n hX dX9_rankOf_14 rfl ?_
      refine q_aload_n hX dX9_rankOf_15 rfl ?_
      refine q_iload_n hX dX9_rankOf_16 rfl ?_
      refine q_iload_n hX dX9_rankOf_17 rfl ?_
      refine q_V_zp hX hR (w_X9_isAhead  h) lk_X9_52 (rc2_of (ci := 10) rfl rfl) dX9_rankOf_18 rfl rfl (Nat.le_of_ble_eq_true rfl) (by omega) (by omega) (by omega) ?_
      intro x2 hrx2 h
      refine q_if_eq hX dX9_rankOf_21 (tgt := 28) (by decide) (fun q3 => ?_) (fun q3 => ?_)
      · replace h := ite_t q3 h
        refine q_iconst hX dX9_rankOf_28 (v := (nI 0)) (by decide) ?_
        exact q_dr (w_X9_rankOf_b29 hX hT  (fun _ _ h => ih _ _  h)  _ _ _ (Or.inl rfl) (isC_n (by decide)) h) ⟨Or.inl rfl, Or.inl rfl, Or.inr rfl, Or.inl rfl, trivial⟩
      · replace h := ite_f q3 h
        refine q_iconst hX dX9_rankOf_24 (v := (nI 1)) (by decide) ?_
        refine q_goto hX dX9_rankOf_25 (tgt := 29) (by decide) ?_
        exact q_dr (w_X9_rankOf_b29 hX hT  (fun _ _ h => ih _ _  h)  _ _ _ (Or.inr rfl) (isC_n (by decide)) h) ⟨Or.inl rfl, Or.inl rfl, Or.inr rfl, Or.inl rfl, trivial⟩
set_option maxRecDepth 100000 in
set_option maxHeartbeats 4000000 in
theorem w_X9_rankOf {l : Launch} {D : DT} {L : LT} {a1 : Int32} {I : IT} {K : Int32 → Prop}  (h : f_X9_rankOf a1 I K) : Con2 l D m_X9_rankOf 3 [.ref 190, .int a1] 0 0 I L (Pi L (fun x I' => I' = I ∧ K x)) := by
  refine Con2.of (by decide +kernel) (by simp [Value.category]) (Nat.le_of_ble_eq_true rfl) (fun X hX hT => ?_)
  have hX : OK X D cX9_rankOf "TeaHouseModel" 4 := hX
  have hT : RT X l D (some .int) (P2 (Pi L (fun x I' => I' = I ∧ K x))) 3 0 0 := hT
  have hR := hT.room
  change J2 X D 4 0 0 I L 0 [.ref 190, .int a1, .retAddr 0, .retAddr 0] []
  rw [f_X9_rankOf] at h
  refine q_iconst hX dX9_rankOf_0 (v := (nI 0)) (by decide) ?_
  refine q_istore_n hX dX9_rankOf_1 (by decide) (ls' := [_, _, _, _]) rfl ?_
  refine q_iconst hX dX9_rankOf_2 (v := (nI 0)) (by decide) ?_
  refine q_istore_n hX dX9_rankOf_3 (by decide) (ls' := [_, _, _, _]) rfl ?_
  exact q_dr (w_X9_rankOf_b4 hX hT   _  _ _  h) ⟨Or.inl rfl, Or.inl rfl, Or.inl rfl, Or.inl rfl, trivial⟩
set_option maxRecDepth 100000 in
set_option maxHeartbeats 4000000 in
theorem w_X9_ranked_b2 {X : XT} {D : DT} {l : Launch} {L : LT} {a1 : Int32} {I : IT} {K : Int32 → Prop} (hX : OK X D cX9_ranked "TeaHouseModel" 3) (hT : RT X l D (some .int) (P2 (Pi L (fun x I' => I' = I ∧ K x))) 4 0 0)   : ∀ (n : Nat), ∀ (v2 : Int32), f_X9_ranked_b2 a1 I K n v2 → J2 X D 3 0 0 I L 2 [.ref 190, .int a1, .int v2] [] := by
  have hR := hT.room
  intro n
  induction n with
  | zero => intro v2 h; exact False.elim h
  | succ n ih =>
    intro v2 h
    rw [f_X9_ranked_b2] at h
    refine q_iload_n hX dX9_ranked_2 rfl ?_
    refine q_aload_n hX dX9_ranked_3 rfl ?_
    refine q_getR hX gf_X9_9 rfl dX9_ranked_4 (at_of (n := 0) rfl) (b := 191) rfl ?_
    refine q_iconst hX dX9_ranked_7 (v := (nI 2)) (by decide) ?_
    refine q_iald hX dX9_ranked_8 (at_of (a := 191) (t := 22) (n := 1236) rfl) (j := 2) rfl (by decide) (by decide) ?_
    refine q_icmp_ge hX dX9_ranked_9 (tgt := 29) (by decide) (fun q1 => ?_) (fun q1 => ?_)
    · replace h := ite_t q1 h
      refine q_iconst hX dX9_ranked_29 (v := (-1)) (by decide) ?_
      exact q_iretp hX hT dX9_ranked_30 h
    · replace h := ite_f q1 h
      refine q_aload_n hX dX9_ranked_12 rfl ?_
      refine q_iload_n hX dX9_ranked_13 rfl ?_
      refine q_V_ip hX hR (w_X9_rankOf  h) lk_X9_56 (rc2_of (ci := 10) rfl rfl) dX9_ranked_14 rfl rfl (Nat.le_of_ble_eq_true rfl) (by omega) (by omega) (by omega) ?_
      intro x2 h
      refine q_iload_n hX dX9_ranked_17 rfl ?_
      refine q_icmp_ne hX dX9_ranked_18 (tgt := 23) (by decide) (fun q3 => ?_) (fun q3 => ?_)
      · replace h := ite_f q3 h
        replace h := bnd_e h
        refine q_iinc hX dX9_ranked_23 (by decide) rfl (v := _ + nI 1) (ls' := [_, _, _]) rfl rfl ?_
        refine q_goto hX dX9_ranked_26 (tgt := 2) (by decide) ?_
        exact q_dr (ih _  h) ⟨Or.inl rfl, Or.inl rfl, Or.inl rfl, trivial⟩
      · replace h := ite_t q3 h
        refine q_iload_n hX dX9_ranked_21 rfl ?_
        exact q_iretp hX hT dX9_ranked_22 h
set_option maxRecDepth 100000 in
set_option maxHeartbeats 4000000 in
theorem w_X9_ranked {l : Launch} {D : DT} {L : LT} {a1 : Int32} {I : IT} {K : Int32 → Prop}  (h : f_X9_ranked a1 I K) : Con2 l D m_X9_ranked 4 [.ref 190, .int a1] 0 0 I L (Pi L (fun x I' => I' = I ∧ K x)) := by
  refine Con2.of (by decide +kernel) (by simp [Value.category]) (Nat.le_of_ble_eq_true rfl) (fun X hX hT => ?_)
  have hX : OK X D cX9_ranked "TeaHouseModel" 3 := hX
  have hT : RT X l D (some .int) (P2 (Pi L (fun x I' => I' = I ∧ K x))) 4 0 0 := hT
  have hR := hT.room
  change J2 X D 3 0 0 I L 0 [.ref 190, .int a1, .retAddr 0] []
  rw [f_X9_ranked] at h
  refine q_iconst hX dX9_ranked_0 (v := (nI 0)) (by decide) ?_
  refine q_istore_n hX dX9_ranked_1 (by decide) (ls' := [_, _, _]) rfl ?_
  exact q_dr (w_X9_ranked_b2 hX hT   _  _  h) ⟨Or.inl rfl, Or.inl rfl, Or.inl rfl, trivial⟩
set_option maxRecDepth 100000 in
set_option maxHeartbeats 4000000 in
theorem w_X9_pourer_b79 {X : XT} {D : DT} {l : Launch} {L : LT} {a1 : Int32} {I : IT} {K : Int32 → Prop} {X4 : Int32 → Int32 → Prop} (hX : OK X D cX9_pourer "TeaHouseModel" 5) (hT : RT X l D (some .int) (P2 (Pi L (fun x I' => I' = I ∧ K x))) 2 0 0)  (hx4 : ∀ (v2 : Int32) (v3 : Int32), X4 v2 v3 → J2 X D 5 0 0 I L 4 [.ref 190, .int a1, .int v2, .int v3, .retAddr 0] []) : ∀ (v3 : Int32), f_X9_pourer_b79 a1 I X4 K v3 → J2 X D 5 0 0 I L 79 [.ref 190, .int a1, .retAddr 0, .int v3, .retAddr 0] [] := by
  have hR := hT.room
  intro v3 h
  rw [f_X9_pourer_b79] at h
  refine q_iload_n hX dX9_pourer_79 rfl ?_
  refine q_goto hX dX9_pourer_80 (tgt := 84) (by decide) ?_
  refine q_istore_n hX dX9_pourer_84 (by decide) (ls' := [_, _, _, _, _]) rfl ?_
  replace h := bnd_e h
  refine q_iinc hX dX9_pourer_85 (by decide) rfl (v := _ + nI 1) (ls' := [_, _, _, _, _]) rfl rfl ?_
  refine q_goto hX dX9_pourer_88 (tgt := 4) (by decide) ?_
  exact q_dr (hx4 _ _  h) ⟨Or.inl rfl, Or.inl rfl, Or.inl rfl, Or.inl rfl, Or.inl rfl, trivial⟩
set_option maxRecDepth 100000 in
set_option maxHeartbeats 4000000 in
theorem w_X9_pourer_b83 {X : XT} {D : DT} {l : Launch} {L : LT} {a1 : Int32} {I : IT} {K : Int32 → Prop} {X4 : Int32 → Int32 → Prop} (hX : OK X D cX9_pourer "TeaHouseModel" 5) (hT : RT X l D (some .int) (P2 (Pi L (fun x I' => I' = I ∧ K x))) 2 0 0)  (hx4 : ∀ (v2 : Int32) (v3 : Int32), X4 v2 v3 → J2 X D 5 0 0 I L 4 [.ref 190, .int a1, .int v2, .int v3, .retAddr 0] []) : ∀ (v2 : Int32) (v3 : Int32), f_X9_pourer_b83 a1 I X4 K v2 v3 → J2 X D 5 0 0 I L 83 [.ref 190, .int a1, .int v2, .int v3, .retAddr 0] [] := by
  have hR := hT.room
  intro v2 v3 h
  rw [f_X9_pourer_b83] at h
  refine q_iload_n hX dX9_pourer_83 rfl ?_
  refine q_istore_n hX dX9_pourer_84 (by decide) (ls' := [_, _, _, _, _]) rfl ?_
  replace h := bnd_e h
  refine q_iinc hX dX9_pourer_85 (by decide) rfl (v := _ + nI 1) (ls' := [_, _, _, _, _]) rfl rfl ?_
  refine q_goto hX dX9_pourer_88 (tgt := 4) (by decide) ?_
  exact q_dr (hx4 _ _  h) ⟨Or.inl rfl, Or.inl rfl, Or.inl rfl, Or.inl rfl, Or.inl rfl, trivial⟩
set_option maxRecDepth 100000 in
set_option maxHeartbeats 4000000 in
theorem w_X9_pourer_b53 {X : XT} {D : DT} {l : Launch} {L : LT} {a1 : Int32} {I : IT} {K : Int32 → Prop} {X4 : Int32 → Int32 → Prop} (hX : OK X D cX9_pourer "TeaHouseModel" 5) (hT : RT X l D (some .int) (P2 (Pi L (fun x I' => I' = I ∧ K x))) 2 0 0)  (hx4 : ∀ (v2 : Int32) (v3 : Int32), X4 v2 v3 → J2 X D 5 0 0 I L 4 [.ref 190, .int a1, .int v2, .int v3, .retAddr 0] []) : ∀ (v2 : Int32) (v3 : Int32) (s0 : Int32), isZ s0 → isC s0 → f_X9_pourer_b53 a1 I X4 K v2 v3 s0 → J2 X D 5 0 0 I L 53 [.ref 190, .int a1, .int v2, .int v3, .retAddr 0] [.int s0] := by
  have hR := hT.room
  intro v2 v3 s0 hzs0 hcs0 h
  rw [f_X9_pourer_b53] at h
  refine q_istore hX dX9_pourer_53 (by decide) (ls' := [_, _, _, _, _]) rfl ?_
  refine q_iload hX dX9_pourer_55 rfl ?_
  refine q_if_eq hX dX9_pourer_57 (tgt := 83) (by decide) (fun q1 => ?_) (fun q1 => ?_)
  · replace h := ite_t q1 h
    exact q_dr (w_X9_pourer_b83 hX hT  hx4  _ _  h) ⟨Or.inl rfl, Or.inl rfl, Or.inl rfl, Or.inl rfl, Or.inr rfl, trivial⟩
  · replace h := ite_f q1 h
    refine q_iload_n hX dX9_pourer_60 rfl ?_
    refine q_if_lt hX dX9_pourer_61 (tgt := 79) (by decide) (fun q2 => ?_) (fun q2 => ?_)
    · replace h := ite_t q2 h
      exact q_dr (w_X9_pourer_b79 hX hT  hx4  _  h) ⟨Or.inl rfl, Or.inl rfl, Or.inr rfl, Or.inl rfl, Or.inr rfl, trivial⟩
    · replace h := ite_f q2 h
      refine q_aload_n hX dX9_pourer_64 rfl ?_
      refine q_iload_n hX dX9_pourer_65 rfl ?_
      refine q_iconst hX dX9_pourer_66 (v := (nI 2)) (by decide) ?_
      refine q_V_ip hX hR (w_X9_k  h) lk_X9_60 (rc2_of (ci := 10) rfl rfl) dX9_pourer_67 rfl rfl (Nat.le_of_ble_eq_true rfl) (by omega) (by omega) (by omega) ?_
      intro x3 h
      refine q_aload_n hX dX9_pourer_70 rfl ?_
      refine q_iload_n hX dX9_pourer_71 rfl ?_
      refine q_iconst hX dX9_pourer_72 (v := (nI 2)) (by decide) ?_
      refine q_V_ip hX hR (w_X9_k  h) lk_X9_60 (rc2_of (ci := 10) rfl rfl) dX9_pourer_73 rfl rfl (Nat.le_of_ble_eq_true rfl) (by omega) (by omega) (by omega) ?_
      intro x4 h
      refine q_icmp_le hX dX9_pourer_76 (tgt := 83) (by decide) (fun q5 => ?_) (fun q5 => ?_)
      · replace h := ite_t q5 h
        exact q_dr (w_X9_pourer_b83 hX hT  hx4  _ _  h) ⟨Or.inl rfl, Or.inl rfl, Or.inl rfl, Or.inl rfl, Or.inr rfl, trivial⟩
      · replace h := ite_f q5 h
        exact q_dr (w_X9_pourer_b79 hX hT  hx4  _  h) ⟨Or.inl rfl, Or.inl rfl, Or.inr rfl, Or.inl rfl, Or.inr rfl, trivial⟩
set_option maxRecDepth 100000 in
set_option maxHeartbeats 4000000 in
theorem w_X9_pourer_b52 {X : XT} {D : DT} {l : Launch} {L : LT} {a1 : Int32} {I : IT} {K : Int32 → Prop} {X4 : Int32 → Int32 → Prop} (hX : OK X D cX9_pourer "TeaHouseModel" 5) (hT : RT X l D (some .int) (P2 (Pi L (fun x I' => I' = I ∧ K x))) 2 0 0)  (hx4 : ∀ (v2 : Int32) (v3 : Int32), X4 v2 v3 → J2 X D 5 0 0 I L 4 [.ref 190, .int a1, .int v2, .int v3, .retAddr 0] []) : ∀ (v2 : Int32) (v3 : Int32), f_X9_pourer_b52 a1 I X4 K v2 v3 → J2 X D 5 0 0 I L 52 [.ref 190, .int a1, .int v2, .int v3, .retAddr 0] [] := by
  have hR := hT.room
  intro v2 v3 h
  rw [f_X9_pourer_b52] at h
  refine q_iconst hX dX9_pourer_52 (v := (nI 0)) (by decide) ?_
  exact q_dr (w_X9_pourer_b53 hX hT  hx4  _ _ _ (Or.inl rfl) (isC_n (by decide)) h) ⟨Or.inl rfl, Or.inl rfl, Or.inl rfl, Or.inl rfl, Or.inl rfl, trivial⟩
set_option maxRecDepth 100000 in
set_option maxHeartbeats 4000000 in
theorem w_X9_pourer_b4 {X : XT} {D : DT} {l : Launch} {L : LT} {a1 : Int32} {I : IT} {K : Int32 → Prop} (hX : OK X D cX9_pourer "TeaHouseModel" 5) (hT : RT X l D (some .int) (P2 (Pi L (fun x I' => I' = I ∧ K x))) 2 0 0)   : ∀ (n : Nat), ∀ (v2 : Int32) (v3 : Int32), f_X9_pourer_b4 a1 I K n v2 v3 → J2 X D 5 0 0 I L 4 [.ref 190, .int a1, .int v2, .int v3, .retAddr 0] [] := by
  have hR := hT.room
  intro n
  induction n with
  | zero => intro v2 v3 h; exact False.elim h
  | succ n ih =>
    intro v2 v3 h
    rw [f_X9_pourer_b4] at h
    refine q_iload_n hX dX9_pourer_4 rfl ?_
    refine q_aload_n hX dX9_pourer_5 rfl ?_
    refine q_getR hX gf_X9_9 rfl dX9_pourer_6 (at_of (n := 0) rfl) (b := 191) rfl ?_
    refine q_iconst hX dX9_pourer_9 (v := (nI 1)) (by decide) ?_
    refine q_iald hX dX9_pourer_10 (at_of (a := 191) (t := 22) (n := 1236) rfl) (j := 1) rfl (by decide) (by decide) ?_
    refine q_icmp_ge hX dX9_pourer_11 (tgt := 91) (by decide) (fun q1 => ?_) (fun q1 => ?_)
    · replace h := ite_t q1 h
      refine q_iload_n hX dX9_pourer_91 rfl ?_
      exact q_iretp hX hT dX9_pourer_92 h
    · replace h := ite_f q1 h
      refine q_aload_n hX dX9_pourer_14 rfl ?_
      refine q_iload_n hX dX9_pourer_15 rfl ?_
      refine q_iconst hX dX9_pourer_16 (v := (nI 1)) (by decide) ?_
      refine q_V_ip hX hR (w_X9_k  h) lk_X9_60 (rc2_of (ci := 10) rfl rfl) dX9_pourer_17 rfl rfl (Nat.le_of_ble_eq_true rfl) (by omega) (by omega) (by omega) ?_
      intro x2 h
      refine q_iconst hX dX9_pourer_20 (v := (nI 2)) (by decide) ?_
      refine q_aload_n hX dX9_pourer_21 rfl ?_
      refine q_iload_n hX dX9_pourer_22 rfl ?_
      refine q_iconst hX dX9_pourer_23 (v := (nI 2)) (by decide) ?_
      refine q_V_ip hX hR (w_X9_o  h) lk_X9_48 (rc2_of (ci := 10) rfl rfl) dX9_pourer_24 rfl rfl (Nat.le_of_ble_eq_true rfl) (by omega) (by omega) (by omega) ?_
      intro x3 h
      refine q_imul hX dX9_pourer_27 ?_
      refine q_icmp_lt hX dX9_pourer_28 (tgt := 52) (by decide) (fun q4 => ?_) (fun q4 => ?_)
      · replace h := ite_t q4 h
        exact q_dr (w_X9_pourer_b52 hX hT  (fun _ _ h => ih _ _  h)  _ _  h) ⟨Or.inl rfl, Or.inl rfl, Or.inl rfl, Or.inl rfl, Or.inl rfl, trivial⟩
      · replace h := ite_f q4 h
        refine q_aload_n hX dX9_pourer_31 rfl ?_
        refine q_iload_n hX dX9_pourer_32 rfl ?_
        refine q_iconst hX dX9_pourer_33 (v := (nI 2)) (by decide) ?_
        refine q_V_ip hX hR (w_X9_k  h) lk_X9_60 (rc2_of (ci := 10) rfl rfl) dX9_pourer_34 rfl rfl (Nat.le_of_ble_eq_true rfl) (by omega) (by omega) (by omega) ?_
        intro x5 h
        refine q_iconst hX dX9_pourer_37 (v := (nI 2)) (by decide) ?_
        refine q_aload_n hX dX9_pourer_38 rfl ?_
        refine q_iload_n hX dX9_pourer_39 rfl ?_
        refine q_iconst hX dX9_pourer_40 (v := (nI 3)) (by decide) ?_
        refine q_V_ip hX hR (w_X9_o  h) lk_X9_48 (rc2_of (ci := 10) rfl rfl) dX9_pourer_41 rfl rfl (Nat.le_of_ble_eq_true rfl) (by omega) (by omega) (by omega) ?_
        intro x6 h
        refine q_imul hX dX9_pourer_44 ?_
        refine q_icmp_lt hX dX9_pourer_45 (tgt := 52) (by decide) (fun q7 => ?_) (fun q7 => ?_)
        · replace h := ite_t q7 h
          exact q_dr (w_X9_pourer_b52 hX hT  (fun _ _ h => ih _ _  h)  _ _  h) ⟨Or.inl rfl, Or.inl rfl, Or.inl rfl, Or.inl rfl, Or.inl rfl, trivial⟩
        · replace h := ite_f q7 h
          refine q_iconst hX dX9_pourer_48 (v := (nI 1)) (by decide) ?_
          refine q_goto hX dX9_pourer_49 (tgt := 53) (by decide) ?_
          exact q_dr (w_X9_pourer_b53 hX hT  (fun _ _ h => ih _ _  h)  _ _ _ (Or.inr rfl) (isC_n (by decide)) h) ⟨Or.inl rfl, Or.inl rfl, Or.inl rfl, Or.inl rfl, Or.inl rfl, trivial⟩
set_option maxRecDepth 100000 in
set_option maxHeartbeats 4000000 in
theorem w_X9_pourer {l : Launch} {D : DT} {L : LT} {a1 : Int32} {I : IT} {K : Int32 → Prop}  (h : f_X9_pourer a1 I K) : Con2 l D m_X9_pourer 2 [.ref 190, .int a1] 0 0 I L (Pi L (fun x I' => I' = I ∧ K x)) := by
  refine Con2.of (by decide +kernel) (by simp [Value.category]) (Nat.le_of_ble_eq_true rfl) (fun X hX hT => ?_)
  have hX : OK X D cX9_pourer "TeaHouseModel" 5 := hX
  have hT : RT X l D (some .int) (P2 (Pi L (fun x I' => I' = I ∧ K x))) 2 0 0 := hT
  have hR := hT.room
  change J2 X D 5 0 0 I L 0 [.ref 190, .int a1, .retAddr 0, .retAddr 0, .retAddr 0] []
  rw [f_X9_pourer] at h
  refine q_iconst hX dX9_pourer_0 (v := (-1)) (by decide) ?_
  refine q_istore_n hX dX9_pourer_1 (by decide) (ls' := [_, _, _, _, _]) rfl ?_
  refine q_iconst hX dX9_pourer_2 (v := (nI 0)) (by decide) ?_
  refine q_istore_n hX dX9_pourer_3 (by decide) (ls' := [_, _, _, _, _]) rfl ?_
  exact q_dr (w_X9_pourer_b4 hX hT   _  _ _  h) ⟨Or.inl rfl, Or.inl rfl, Or.inl rfl, Or.inl rfl, Or.inl rfl, trivial⟩
set_option maxRecDepth 100000 in
set_option maxHeartbeats 4000000 in
theorem w_X9_goes_b13 {X : XT} {D : DT} {l : Launch} {L : LT} {a1 : Int32} {K : IT → Prop} {X48 : Int32 → Int32 → IT → Prop} (hX : OK X D cX9_goes "TeaHouseModel" 4) (hT : RT X l D none (P2 (Pv L K)) 1 0 0)  (hx48 : ∀ (v2 : Int32) (v3 : Int32) (I : IT), X48 v2 v3 I → J2 X D 4 0 0 I L 48 [.ref 190, .retAddr 0, .int v2, .int v3] []) : ∀ (n : Nat), ∀ (v2 : Int32) (v3 : Int32) (I : IT), f_X9_goes_b13 a1 X48 K n v2 v3 I → J2 X D 4 0 0 I L 13 [.ref 190, .retAddr 0, .int v2, .int v3] [] := by
  have hR := hT.room
  intro n
  induction n with
  | zero => intro v2 v3 I h; exact False.elim h
  | succ n ih =>
    intro v2 v3 I h
    rw [f_X9_goes_b13] at h
    refine q_iload_n hX dX9_goes_13 rfl ?_
    refine q_iconst hX dX9_goes_14 (v := (nI 5)) (by decide) ?_
    refine q_iload_n hX dX9_goes_15 rfl ?_
    refine q_imul hX dX9_goes_16 ?_
    refine q_icmp_ge hX dX9_goes_17 (tgt := 46) (by decide) (fun q1 => ?_) (fun q1 => ?_)
    · replace h := ite_t q1 h
      refine q_iconst hX dX9_goes_46 (v := (nI 0)) (by decide) ?_
      refine q_istore_n hX dX9_goes_47 (by decide) (ls' := [_, _, _, _]) rfl ?_
      exact q_dr (hx48 _ _ _  h) ⟨Or.inl rfl, Or.inl rfl, Or.inl rfl, Or.inl rfl, trivial⟩
    · replace h := ite_f q1 h
      refine q_aload_n hX dX9_goes_20 rfl ?_
      refine q_getR hX gf_X9_9 rfl dX9_goes_21 (at_of (n := 0) rfl) (b := 191) rfl ?_
      refine q_bipush hX dX9_goes_24 (v := (nI 53)) (by decide) ?_
      refine q_iload_n hX dX9_goes_26 rfl ?_
      refine q_iadd hX dX9_goes_27 ?_
      refine q_aload_n hX dX9_goes_28 rfl ?_
      refine q_getR hX gf_X9_9 rfl dX9_goes_29 (at_of (n := 0) rfl) (b := 191) rfl ?_
      refine q_bipush hX dX9_goes_32 (v := (nI 53)) (by decide) ?_
      refine q_iload_n hX dX9_goes_34 rfl ?_
      refine q_iadd hX dX9_goes_35 ?_
      refine q_iconst hX dX9_goes_36 (v := (nI 5)) (by decide) ?_
      refine q_iadd hX dX9_goes_37 ?_
      obtain ⟨z2, h⟩ := h
      refine q_iald hX dX9_goes_38 (at_of (a := 191) (t := 22) (n := 1236) rfl) (inr_e z2) (inr_lt z2) (by decide) ?_
      obtain ⟨z3, h⟩ := h
      replace h := wr_e h
      refine q_iast hX dX9_goes_39 (at_of (a := 191) (t := 22) (n := 1236) rfl) (inr_e z3) (inr_lt z3) (by decide) rfl ?_
      generalize up2 _ _ _ _ = I4 at h ⊢
      replace h := bnd_e h
      refine q_iinc hX dX9_goes_40 (by decide) rfl (v := _ + nI 1) (ls' := [_, _, _, _]) rfl rfl ?_
      refine q_goto hX dX9_goes_43 (tgt := 13) (by decide) ?_
      exact q_dr (ih _ _ _  h) ⟨Or.inl rfl, Or.inl rfl, Or.inl rfl, Or.inl rfl, trivial⟩
set_option maxRecDepth 100000 in
set_option maxHeartbeats 4000000 in
theorem w_X9_goes_b48 {X : XT} {D : DT} {l : Launch} {L : LT} {a1 : Int32} {K : IT → Prop} (hX : OK X D cX9_goes "TeaHouseModel" 4) (hT : RT X l D none (P2 (Pv L K)) 1 0 0)   : ∀ (n : Nat), ∀ (v2 : Int32) (v3 : Int32) (I : IT), f_X9_goes_b48 a1 K n v2 v3 I → J2 X D 4 0 0 I L 48 [.ref 190, .retAddr 0, .int v2, .int v3] [] := by
  have hR := hT.room
  intro n
  induction n with
  | zero => intro v2 v3 I h; exact False.elim h
  | succ n ih =>
    intro v2 v3 I h
    rw [f_X9_goes_b48] at h
    refine q_iload_n hX dX9_goes_48 rfl ?_
    refine q_iconst hX dX9_goes_49 (v := (nI 5)) (by decide) ?_
    refine q_icmp_ge hX dX9_goes_50 (tgt := 73) (by decide) (fun q1 => ?_) (fun q1 => ?_)
    · replace h := ite_t q1 h
      refine q_aload_n hX dX9_goes_73 rfl ?_
      refine q_getR hX gf_X9_9 rfl dX9_goes_74 (at_of (n := 0) rfl) (b := 191) rfl ?_
      refine q_iconst hX dX9_goes_77 (v := (nI 2)) (by decide) ?_
      refine q_iload_n hX dX9_goes_78 rfl ?_
      replace h := wr_e h
      refine q_iast hX dX9_goes_79 (at_of (a := 191) (t := 22) (n := 1236) rfl) (j := 2) rfl (by decide) (by decide) rfl ?_
      generalize up2 _ _ _ _ = I2 at h ⊢
      exact q_vret hX hT dX9_goes_80 h
    · replace h := ite_f q1 h
      refine q_aload_n hX dX9_goes_53 rfl ?_
      refine q_getR hX gf_X9_9 rfl dX9_goes_54 (at_of (n := 0) rfl) (b := 191) rfl ?_
      refine q_bipush hX dX9_goes_57 (v := (nI 53)) (by decide) ?_
      refine q_iconst hX dX9_goes_59 (v := (nI 5)) (by decide) ?_
      refine q_iload_n hX dX9_goes_60 rfl ?_
      refine q_imul hX dX9_goes_61 ?_
      refine q_iadd hX dX9_goes_62 ?_
      refine q_iload_n hX dX9_goes_63 rfl ?_
      refine q_iadd hX dX9_goes_64 ?_
      refine q_iconst hX dX9_goes_65 (v := (nI 0)) (by decide) ?_
      obtain ⟨z3, h⟩ := h
      replace h := wr_e h
      refine q_iast hX dX9_goes_66 (at_of (a := 191) (t := 22) (n := 1236) rfl) (inr_e z3) (inr_lt z3) (by decide) rfl ?_
      generalize up2 _ _ _ _ = I4 at h ⊢
      replace h := bnd_e h
      refine q_iinc hX dX9_goes_67 (by decide) rfl (v := _ + nI 1) (ls' := [_, _, _, _]) rfl rfl ?_
      refine q_goto hX dX9_goes_70 (tgt := 48) (by decide) ?_
      exact q_dr (ih _ _ _  h) ⟨Or.inl rfl, Or.inl rfl, Or.inl rfl, Or.inl rfl, trivial⟩
set_option maxRecDepth 100000 in
set_option maxHeartbeats 4000000 in
theorem w_X9_goes {l : Launch} {D : DT} {L : LT} {a1 : Int32} {I : IT} {K : IT → Prop}  (h : f_X9_goes a1 I K) : Con2 l D m_X9_goes 1 [.ref 190, .int a1] 0 0 I L (Pv L K) := by
  refine Con2.of (by decide +kernel) (by simp [Value.category]) (Nat.le_of_ble_eq_true rfl) (fun X hX hT => ?_)
  have hX : OK X D cX9_goes "TeaHouseModel" 4 := hX
  have hT : RT X l D none (P2 (Pv L K)) 1 0 0 := hT
  have hR := hT.room
  change J2 X D 4 0 0 I L 0 [.ref 190, .int a1, .retAddr 0, .retAddr 0] []
  rw [f_X9_goes] at h
  refine q_aload_n hX dX9_goes_0 rfl ?_
  refine q_getR hX gf_X9_9 rfl dX9_goes_1 (at_of (n := 0) rfl) (b := 191) rfl ?_
  refine q_iconst hX dX9_goes_4 (v := (nI 2)) (by decide) ?_
  refine q_iald hX dX9_goes_5 (at_of (a := 191) (t := 22) (n := 1236) rfl) (j := 2) rfl (by decide) (by decide) ?_
  refine q_iconst hX dX9_goes_6 (v := (nI 1)) (by decide) ?_
  refine q_isub hX dX9_goes_7 ?_
  replace h := bnd_e h
  refine q_istore_n hX dX9_goes_8 (by decide) (ls' := [_, _, _, _]) rfl ?_
  refine q_iconst hX dX9_goes_9 (v := (nI 5)) (by decide) ?_
  refine q_iload_n hX dX9_goes_10 rfl ?_
  refine q_imul hX dX9_goes_11 ?_
  replace h := bnd_e h
  refine q_istore_n hX dX9_goes_12 (by decide) (ls' := [_, _, _, _]) rfl ?_
  exact q_dr (w_X9_goes_b13 hX hT  (fun _ _ _ h => w_X9_goes_b48 hX hT   _  _ _ _  h) _  _ _ _  h) ⟨Or.inl rfl, Or.inr rfl, Or.inl rfl, Or.inl rfl, trivial⟩
