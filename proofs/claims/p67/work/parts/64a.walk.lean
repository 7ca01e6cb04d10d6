set_option maxRecDepth 100000 in
set_option maxHeartbeats 4000000 in
theorem w_X3_copyFrom_b10 {X : XT} {D : DT} {l : Launch} {L : LT} {a0 : Nat} {a1 : Nat} {K : IT → Prop} (hX : OK X D cX3_copyFrom "TeaHouse$Kettles" 3) (hT : RT X l D none (P2 (Pv L K)) 1 0 0) (ha0 : isKet a0) (ha1 : isKet a1)  : ∀ (n : Nat), ∀ (v2 : Int32) (I : IT), f_X3_copyFrom_b10 a0 a1 K n v2 I → J2 X D 3 0 0 I L 10 [.ref a0, .ref a1, .int v2] [] := by
  have hR := hT.room
  intro n
  induction n with
  | zero => intro v2 I h; exact False.elim h
  | succ n ih =>
    intro v2 I h
    rw [f_X3_copyFrom_b10] at h
    refine q_iload_n hX dX3_copyFrom_10 rfl ?_
    refine q_iconst hX dX3_copyFrom_11 (v := (nI 4)) (by decide) ?_
    refine q_icmp_ge hX dX3_copyFrom_12 (tgt := 81) (by decide) (fun q1 => ?_) (fun q1 => ?_)
    · replace h := ite_t q1 h
      exact q_vret hX hT dX3_copyFrom_81 h
    · replace h := ite_f q1 h
      refine q_aload_n hX dX3_copyFrom_15 rfl ?_
      refine q_getR hX gf_X3_9 rfl dX3_copyFrom_16 (at_KET ha0) (b := (a0 + 1)) (rt_KET_0 ha0) ?_
      refine q_iload_n hX dX3_copyFrom_19 rfl ?_
      refine q_aload_n hX dX3_copyFrom_20 rfl ?_
      refine q_getR hX gf_X3_9 rfl dX3_copyFrom_21 (at_KET ha1) (b := (a1 + 1)) (rt_KET_0 ha1) ?_
      refine q_iload_n hX dX3_copyFrom_24 rfl ?_
      obtain ⟨z2, h⟩ := h
      refine q_iald hX dX3_copyFrom_25 (aa_KET_0 ha1) (inr_e z2) (inr_lt z2) (by decide) ?_
      replace h := wr_e h
      refine q_iast hX dX3_copyFrom_26 (aa_KET_0 ha0) (inr_e z2) (inr_lt z2) (by decide) rfl ?_
      generalize up2 _ _ _ _ = I3 at h ⊢
      refine q_aload_n hX dX3_copyFrom_27 rfl ?_
      refine q_getR hX gf_X3_15 rfl dX3_copyFrom_28 (at_KET ha0) (b := (a0 + 2)) (rt_KET_1 ha0) ?_
      refine q_iload_n hX dX3_copyFrom_31 rfl ?_
      refine q_aload_n hX dX3_copyFrom_32 rfl ?_
      refine q_getR hX gf_X3_15 rfl dX3_copyFrom_33 (at_KET ha1) (b := (a1 + 2)) (rt_KET_1 ha1) ?_
      refine q_iload_n hX dX3_copyFrom_36 rfl ?_
      refine q_iald hX dX3_copyFrom_37 (aa_KET_1 ha1) (inr_e z2) (inr_lt z2) (by decide) ?_
      replace h := wr_e h
      refine q_iast hX dX3_copyFrom_38 (aa_KET_1 ha0) (inr_e z2) (inr_lt z2) (by decide) rfl ?_
      generalize up2 _ _ _ _ = I4 at h ⊢
      refine q_aload_n hX dX3_copyFrom_39 rfl ?_
      refine q_getR hX gf_X3_18 rfl dX3_copyFrom_40 (at_KET ha0) (b := (a0 + 3)) (rt_KET_2 ha0) ?_
      refine q_iload_n hX dX3_copyFrom_43 rfl ?_
      refine q_aload_n hX dX3_copyFrom_44 rfl ?_
      refine q_getR hX gf_X3_18 rfl dX3_copyFrom_45 (at_KET ha1) (b := (a1 + 3)) (rt_KET_2 ha1) ?_
      refine q_iload_n hX dX3_copyFrom_48 rfl ?_
      refine q_iald hX dX3_copyFrom_49 (aa_KET_2 ha1) (inr_e z2) (inr_lt z2) (by decide) ?_
      replace h := wr_e h
      refine q_iast hX dX3_copyFrom_50 (aa_KET_2 ha0) (inr_e z2) (inr_lt z2) (by decide) rfl ?_
      generalize up2 _ _ _ _ = I5 at h ⊢
      refine q_aload_n hX dX3_copyFrom_51 rfl ?_
      refine q_getR hX gf_X3_21 rfl dX3_copyFrom_52 (at_KET ha0) (b := (a0 + 4)) (rt_KET_3 ha0) ?_
      refine q_iload_n hX dX3_copyFrom_55 rfl ?_
      refine q_aload_n hX dX3_copyFrom_56 rfl ?_
      refine q_getR hX gf_X3_21 rfl dX3_copyFrom_57 (at_KET ha1) (b := (a1 + 4)) (rt_KET_3 ha1) ?_
      refine q_iload_n hX dX3_copyFrom_60 rfl ?_
      refine q_iald hX dX3_copyFrom_61 (aa_KET_3 ha1) (inr_e z2) (inr_lt z2) (by decide) ?_
      replace h := wr_e h
      refine q_iast hX dX3_copyFrom_62 (aa_KET_3 ha0) (inr_e z2) (inr_lt z2) (by decide) rfl ?_
      generalize up2 _ _ _ _ = I6 at h ⊢
      refine q_aload_n hX dX3_copyFrom_63 rfl ?_
      refine q_getR hX gf_X3_24 rfl dX3_copyFrom_64 (at_KET ha0) (b := (a0 + 5)) (rt_KET_4 ha0) ?_
      refine q_iload_n hX dX3_copyFrom_67 rfl ?_
      refine q_aload_n hX dX3_copyFrom_68 rfl ?_
      refine q_getR hX gf_X3_24 rfl dX3_copyFrom_69 (at_KET ha1) (b := (a1 + 5)) (rt_KET_4 ha1) ?_
      refine q_iload_n hX dX3_copyFrom_72 rfl ?_
      refine q_zald hX dX3_copyFrom_73 (aa_KET_4 ha1) (inr_e z2) (inr_lt z2) (by decide) ?_
      obtain ⟨z7, h⟩ := h
      replace h := wr_e h
      refine q_zast hX dX3_copyFrom_74 (aa_KET_4 ha0) (inr_e z2) (inr_lt z2) (by decide) (narv_z z7) ?_
      generalize up2 _ _ _ _ = I8 at h ⊢
      replace h := bnd_e h
      refine q_iinc hX dX3_copyFrom_75 (by decide) rfl (v := _ + nI 1) (ls' := [_, _, _]) rfl rfl ?_
      refine q_goto hX dX3_copyFrom_78 (tgt := 10) (by decide) ?_
      exact q_dr (ih _ _  h) ⟨Or.inl rfl, Or.inl rfl, Or.inl rfl, trivial⟩
set_option maxRecDepth 100000 in
set_option maxHeartbeats 4000000 in
theorem w_X3_copyFrom {l : Launch} {D : DT} {L : LT} {a0 : Nat} {a1 : Nat} {I : IT} {K : IT → Prop} (ha0 : isKet a0) (ha1 : isKet a1) (h : f_X3_copyFrom a0 a1 I K) : Con2 l D m_X3_copyFrom 1 [.ref a0, .ref a1] 0 0 I L (Pv L K) := by
  refine Con2.of (by decide +kernel) (by simp [Value.category]) (Nat.le_of_ble_eq_true rfl) (fun X hX hT => ?_)
  have hX : OK X D cX3_copyFrom "TeaHouse$Kettles" 3 := hX
  have hT : RT X l D none (P2 (Pv L K)) 1 0 0 := hT
  have hR := hT.room
  change J2 X D 3 0 0 I L 0 [.ref a0, .ref a1, .retAddr 0] []
  rw [f_X3_copyFrom] at h
  refine q_aload_n hX dX3_copyFrom_0 rfl ?_
  refine q_aload_n hX dX3_copyFrom_1 rfl ?_
  refine q_getI hX gf_X3_28 rfl dX3_copyFrom_2 (at_KET ha1) ?_
  replace h := wr_e h
  refine q_putI hX pf_X3_28 rfl dX3_copyFrom_5 (at_KET ha0) rfl rfl ?_
  generalize up2 _ _ _ _ = I1 at h ⊢
  refine q_iconst hX dX3_copyFrom_8 (v := (nI 0)) (by decide) ?_
  refine q_istore_n hX dX3_copyFrom_9 (by decide) (ls' := [_, _, _]) rfl ?_
  exact q_dr (w_X3_copyFrom_b10 hX hT ha0 ha1  _  _ _  h) ⟨Or.inl rfl, Or.inl rfl, Or.inl rfl, trivial⟩
set_option maxRecDepth 100000 in
set_option maxHeartbeats 4000000 in
theorem w_X4_copyFrom_b34 {X : XT} {D : DT} {l : Launch} {L : LT} {a0 : Nat} {a1 : Nat} {K : IT → Prop} (hX : OK X D cX4_copyFrom "TeaHouse$Ledger" 3) (hT : RT X l D none (P2 (Pv L K)) 1 0 0) (ha0 : isLed a0) (ha1 : isLed a1)  : ∀ (n : Nat), ∀ (v2 : Int32) (I : IT), f_X4_copyFrom_b34 a0 a1 K n v2 I → J2 X D 3 0 0 I L 34 [.ref a0, .ref a1, .int v2] [] := by
  have hR := hT.room
  intro n
  induction n with
  | zero => intro v2 I h; exact False.elim h
  | succ n ih =>
    intro v2 I h
    rw [f_X4_copyFrom_b34] at h
    refine q_iload_n hX dX4_copyFrom_34 rfl ?_
    refine q_bipush hX dX4_copyFrom_35 (v := (nI 14)) (by decide) ?_
    refine q_icmp_ge hX dX4_copyFrom_37 (tgt := 74) (by decide) (fun q1 => ?_) (fun q1 => ?_)
    · replace h := ite_t q1 h
      exact q_vret hX hT dX4_copyFrom_74 h
    · replace h := ite_f q1 h
      refine q_aload_n hX dX4_copyFrom_40 rfl ?_
      refine q_getR hX gf_X4_9 rfl dX4_copyFrom_41 (at_LED ha0) (b := (a0 + 1)) (rt_LED_0 ha0) ?_
      refine q_iload_n hX dX4_copyFrom_44 rfl ?_
      refine q_aload_n hX dX4_copyFrom_45 rfl ?_
      refine q_getR hX gf_X4_9 rfl dX4_copyFrom_46 (at_LED ha1) (b := (a1 + 1)) (rt_LED_0 ha1) ?_
      refine q_iload_n hX dX4_copyFrom_49 rfl ?_
      obtain ⟨z2, h⟩ := h
      refine q_iald hX dX4_copyFrom_50 (aa_LED_0 ha1) (inr_e z2) (inr_lt z2) (by decide) ?_
      replace h := wr_e h
      refine q_iast hX dX4_copyFrom_51 (aa_LED_0 ha0) (inr_e z2) (inr_lt z2) (by decide) rfl ?_
      generalize up2 _ _ _ _ = I3 at h ⊢
      refine q_aload_n hX dX4_copyFrom_52 rfl ?_
      refine q_getR hX gf_X4_15 rfl dX4_copyFrom_53 (at_LED ha0) (b := (a0 + 2)) (rt_LED_1 ha0) ?_
      refine q_iload_n hX dX4_copyFrom_56 rfl ?_
      refine q_iconst hX dX4_copyFrom_57 (v := (nI 1)) (by decide) ?_
      refine q_iadd hX dX4_copyFrom_58 ?_
      refine q_aload_n hX dX4_copyFrom_59 rfl ?_
      refine q_getR hX gf_X4_15 rfl dX4_copyFrom_60 (at_LED ha1) (b := (a1 + 2)) (rt_LED_1 ha1) ?_
      refine q_iload_n hX dX4_copyFrom_63 rfl ?_
      refine q_iconst hX dX4_copyFrom_64 (v := (nI 1)) (by decide) ?_
      refine q_iadd hX dX4_copyFrom_65 ?_
      obtain ⟨z4, h⟩ := h
      refine q_iald hX dX4_copyFrom_66 (aa_LED_1 ha1) (inr_e z4) (inr_lt z4) (by decide) ?_
      replace h := wr_e h
      refine q_iast hX dX4_copyFrom_67 (aa_LED_1 ha0) (inr_e z4) (inr_lt z4) (by decide) rfl ?_
      generalize up2 _ _ _ _ = I5 at h ⊢
      replace h := bnd_e h
      refine q_iinc hX dX4_copyFrom_68 (by decide) rfl (v := _ + nI 1) (ls' := [_, _, _]) rfl rfl ?_
      refine q_goto hX dX4_copyFrom_71 (tgt := 34) (by decide) ?_
      exact q_dr (ih _ _  h) ⟨Or.inl rfl, Or.inl rfl, Or.inl rfl, trivial⟩
set_option maxRecDepth 100000 in
set_option maxHeartbeats 4000000 in
theorem w_X4_copyFrom {l : Launch} {D : DT} {L : LT} {a0 : Nat} {a1 : Nat} {I : IT} {K : IT → Prop} (ha0 : isLed a0) (ha1 : isLed a1) (h : f_X4_copyFrom a0 a1 I K) : Con2 l D m_X4_copyFrom 1 [.ref a0, .ref a1] 0 0 I L (Pv L K) := by
  refine Con2.of (by decide +kernel) (by simp [Value.category]) (Nat.le_of_ble_eq_true rfl) (fun X hX hT => ?_)
  have hX : OK X D cX4_copyFrom "TeaHouse$Ledger" 3 := hX
  have hT : RT X l D none (P2 (Pv L K)) 1 0 0 := hT
  have hR := hT.room
  change J2 X D 3 0 0 I L 0 [.ref a0, .ref a1, .retAddr 0] []
  rw [f_X4_copyFrom] at h
  refine q_aload_n hX dX4_copyFrom_0 rfl ?_
  refine q_aload_n hX dX4_copyFrom_1 rfl ?_
  refine q_getI hX gf_X4_18 rfl dX4_copyFrom_2 (at_LED ha1) ?_
  replace h := wr_e h
  refine q_putI hX pf_X4_18 rfl dX4_copyFrom_5 (at_LED ha0) rfl rfl ?_
  generalize up2 _ _ _ _ = I1 at h ⊢
  refine q_aload_n hX dX4_copyFrom_8 rfl ?_
  refine q_aload_n hX dX4_copyFrom_9 rfl ?_
  refine q_getI hX gf_X4_22 rfl dX4_copyFrom_10 (at_LED ha1) ?_
  replace h := wr_e h
  refine q_putI hX pf_X4_22 rfl dX4_copyFrom_13 (at_LED ha0) rfl rfl ?_
  generalize up2 _ _ _ _ = I2 at h ⊢
  refine q_aload_n hX dX4_copyFrom_16 rfl ?_
  refine q_aload_n hX dX4_copyFrom_17 rfl ?_
  refine q_getI hX gf_X4_25 rfl dX4_copyFrom_18 (at_LED ha1) ?_
  replace h := wr_e h
  refine q_putI hX pf_X4_25 rfl dX4_copyFrom_21 (at_LED ha0) rfl rfl ?_
  generalize up2 _ _ _ _ = I3 at h ⊢
  refine q_aload_n hX dX4_copyFrom_24 rfl ?_
  refine q_aload_n hX dX4_copyFrom_25 rfl ?_
  refine q_getI hX gf_X4_28 rfl dX4_copyFrom_26 (at_LED ha1) ?_
  replace h := wr_e h
  refine q_putI hX pf_X4_28 rfl dX4_copyFrom_29 (at_LED ha0) rfl rfl ?_
  generalize up2 _ _ _ _ = I4 at h ⊢
  refine q_iconst hX dX4_copyFrom_32 (v := (nI 0)) (by decide) ?_
  refine q_istore_n hX dX4_copyFrom_33 (by decide) (ls' := [_, _, _]) rfl ?_
  exact q_dr (w_X4_copyFrom_b34 hX hT ha0 ha1  _  _ _  h) ⟨Or.inl rfl, Or.inl rfl, Or.inl rfl, trivial⟩
set_option maxRecDepth 100000 in
set_option maxHeartbeats 4000000 in
theorem w_X5_copyOrder {l : Launch} {D : DT} {L : LT} {a0 : Nat} {a1 : Nat} {a2 : Int32} {a3 : Int32} {I : IT} {K : IT → Prop} (ha0 : isOrd a0) (ha1 : isOrd a1) (h : f_X5_copyOrder a0 a1 a2 a3 I K) : Con2 l D m_X5_copyOrder 1 [.ref a0, .ref a1, .int a2, .int a3] 0 0 I L (Pv L K) := by
  refine Con2.of (by decide +kernel) (by simp [Value.category]) (Nat.le_of_ble_eq_true rfl) (fun X hX hT => ?_)
  have hX : OK X D cX5_copyOrder "TeaHouse$Orders" 4 := hX
  have hT : RT X l D none (P2 (Pv L K)) 1 0 0 := hT
  have hR := hT.room
  change J2 X D 4 0 0 I L 0 [.ref a0, .ref a1, .int a2, .int a3] []
  rw [f_X5_copyOrder] at h
  refine q_aload_n hX dX5_copyOrder_0 rfl ?_
  refine q_getR hX gf_X5_9 rfl dX5_copyOrder_1 (at_ORD ha0) (b := (a0 + 1)) (rt_ORD_0 ha0) ?_
  refine q_iload_n hX dX5_copyOrder_4 rfl ?_
  refine q_aload_n hX dX5_copyOrder_5 rfl ?_
  refine q_getR hX gf_X5_9 rfl dX5_copyOrder_6 (at_ORD ha1) (b := (a1 + 1)) (rt_ORD_0 ha1) ?_
  refine q_iload_n hX dX5_copyOrder_9 rfl ?_
  obtain ⟨z1, h⟩ := h
  refine q_iald hX dX5_copyOrder_10 (aa_ORD_0 ha1) (inr_e z1) (inr_lt z1) (by decide) ?_
  obtain ⟨z2, h⟩ := h
  replace h := wr_e h
  refine q_iast hX dX5_copyOrder_11 (aa_ORD_0 ha0) (inr_e z2) (inr_lt z2) (by decide) rfl ?_
  generalize up2 _ _ _ _ = I3 at h ⊢
  refine q_aload_n hX dX5_copyOrder_12 rfl ?_
  refine q_getR hX gf_X5_15 rfl dX5_copyOrder_13 (at_ORD ha0) (b := (a0 + 2)) (rt_ORD_1 ha0) ?_
  refine q_iload_n hX dX5_copyOrder_16 rfl ?_
  refine q_aload_n hX dX5_copyOrder_17 rfl ?_
  refine q_getR hX gf_X5_15 rfl dX5_copyOrder_18 (at_ORD ha1) (b := (a1 + 2)) (rt_ORD_1 ha1) ?_
  refine q_iload_n hX dX5_copyOrder_21 rfl ?_
  refine q_iald hX dX5_copyOrder_22 (aa_ORD_1 ha1) (inr_e z1) (inr_lt z1) (by decide) ?_
  replace h := wr_e h
  refine q_iast hX dX5_copyOrder_23 (aa_ORD_1 ha0) (inr_e z2) (inr_lt z2) (by decide) rfl ?_
  generalize up2 _ _ _ _ = I4 at h ⊢
  refine q_aload_n hX dX5_copyOrder_24 rfl ?_
  refine q_getR hX gf_X5_18 rfl dX5_copyOrder_25 (at_ORD ha0) (b := (a0 + 3)) (rt_ORD_2 ha0) ?_
  refine q_iload_n hX dX5_copyOrder_28 rfl ?_
  refine q_aload_n hX dX5_copyOrder_29 rfl ?_
  refine q_getR hX gf_X5_18 rfl dX5_copyOrder_30 (at_ORD ha1) (b := (a1 + 3)) (rt_ORD_2 ha1) ?_
  refine q_iload_n hX dX5_copyOrder_33 rfl ?_
  refine q_iald hX dX5_copyOrder_34 (aa_ORD_2 ha1) (inr_e z1) (inr_lt z1) (by decide) ?_
  replace h := wr_e h
  refine q_iast hX dX5_copyOrder_35 (aa_ORD_2 ha0) (inr_e z2) (inr_lt z2) (by decide) rfl ?_
  generalize up2 _ _ _ _ = I5 at h ⊢
  refine q_aload_n hX dX5_copyOrder_36 rfl ?_
  refine q_getR hX gf_X5_21 rfl dX5_copyOrder_37 (at_ORD ha0) (b := (a0 + 4)) (rt_ORD_3 ha0) ?_
  refine q_iload_n hX dX5_copyOrder_40 rfl ?_
  refine q_aload_n hX dX5_copyOrder_41 rfl ?_
  refine q_getR hX gf_X5_21 rfl dX5_copyOrder_42 (at_ORD ha1) (b := (a1 + 4)) (rt_ORD_3 ha1) ?_
  refine q_iload_n hX dX5_copyOrder_45 rfl ?_
  refine q_iald hX dX5_copyOrder_46 (aa_ORD_3 ha1) (inr_e z1) (inr_lt z1) (by decide) ?_
  replace h := wr_e h
  refine q_iast hX dX5_copyOrder_47 (aa_ORD_3 ha0) (inr_e z2) (inr_lt z2) (by decide) rfl ?_
  generalize up2 _ _ _ _ = I6 at h ⊢
  refine q_aload_n hX dX5_copyOrder_48 rfl ?_
  refine q_getR hX gf_X5_24 rfl dX5_copyOrder_49 (at_ORD ha0) (b := (a0 + 5)) (rt_ORD_4 ha0) ?_
  refine q_iload_n hX dX5_copyOrder_52 rfl ?_
  refine q_aload_n hX dX5_copyOrder_53 rfl ?_
  refine q_getR hX gf_X5_24 rfl dX5_copyOrder_54 (at_ORD ha1) (b := (a1 + 5)) (rt_ORD_4 ha1) ?_
  refine q_iload_n hX dX5_copyOrder_57 rfl ?_
  refine q_iald hX dX5_copyOrder_58 (aa_ORD_4 ha1) (inr_e z1) (inr_lt z1) (by decide) ?_
  replace h := wr_e h
  refine q_iast hX dX5_copyOrder_59 (aa_ORD_4 ha0) (inr_e z2) (inr_lt z2) (by decide) rfl ?_
  generalize up2 _ _ _ _ = I7 at h ⊢
  exact q_vret hX hT dX5_copyOrder_60 h
set_option maxRecDepth 100000 in
set_option maxHeartbeats 4000000 in
theorem w_X5_copyFrom_b18 {X : XT} {D : DT} {l : Launch} {L : LT} {a0 : Nat} {a1 : Nat} {K : IT → Prop} (hX : OK X D cX5_copyFrom "TeaHouse$Orders" 3) (hT : RT X l D none (P2 (Pv L K)) 2 0 0) (ha0 : isOrd a0) (ha1 : isOrd a1)  : ∀ (n : Nat), ∀ (v2 : Int32) (I : IT), f_X5_copyFrom_b18 a0 a1 K n v2 I → J2 X D 3 0 0 I L 18 [.ref a0, .ref a1, .int v2] [] := by
  have hR := hT.room
  intro n
  induction n with
  | zero => intro v2 I h; exact False.elim h
  | succ n ih =>
    intro v2 I h
    rw [f_X5_copyFrom_b18] at h
    refine q_iload_n hX dX5_copyFrom_18 rfl ?_
    refine q_bipush hX dX5_copyFrom_19 (v := (nI 10)) (by decide) ?_
    refine q_icmp_ge hX dX5_copyFrom_21 (tgt := 37) (by decide) (fun q1 => ?_) (fun q1 => ?_)
    · replace h := ite_t q1 h
      exact q_vret hX hT dX5_copyFrom_37 h
    · replace h := ite_f q1 h
      refine q_aload_n hX dX5_copyFrom_24 rfl ?_
      refine q_aload_n hX dX5_copyFrom_25 rfl ?_
      refine q_iload_n hX dX5_copyFrom_26 rfl ?_
      refine q_iload_n hX dX5_copyFrom_27 rfl ?_
      refine q_V_v hX hR (w_X5_copyOrder ha0 ha1 h) lk_X5_34 (rc2_ORD ha0) dX5_copyFrom_28 rfl rfl (Nat.le_of_ble_eq_true rfl) (by omega) (by omega) (by omega) ?_
      intro I2 h
      replace h := bnd_e h
      refine q_iinc hX dX5_copyFrom_31 (by decide) rfl (v := _ + nI 1) (ls' := [_, _, _]) rfl rfl ?_
      refine q_goto hX dX5_copyFrom_34 (tgt := 18) (by decide) ?_
      exact q_dr (ih _ _  h) ⟨Or.inl rfl, Or.inl rfl, Or.inl rfl, trivial⟩
set_option maxRecDepth 100000 in
set_option maxHeartbeats 4000000 in
theorem w_X5_copyFrom {l : Launch} {D : DT} {L : LT} {a0 : Nat} {a1 : Nat} {I : IT} {K : IT → Prop} (ha0 : isOrd a0) (ha1 : isOrd a1) (h : f_X5_copyFrom a0 a1 I K) : Con2 l D m_X5_copyFrom 2 [.ref a0, .ref a1] 0 0 I L (Pv L K) := by
  refine Con2.of (by decide +kernel) (by simp [Value.category]) (Nat.le_of_ble_eq_true rfl) (fun X hX hT => ?_)
  have hX : OK X D cX5_copyFrom "TeaHouse$Orders" 3 := hX
  have hT : RT X l D none (P2 (Pv L K)) 2 0 0 := hT
  have hR := hT.room
  change J2 X D 3 0 0 I L 0 [.ref a0, .ref a1, .retAddr 0] []
  rw [f_X5_copyFrom] at h
  refine q_aload_n hX dX5_copyFrom_0 rfl ?_
  refine q_aload_n hX dX5_copyFrom_1 rfl ?_
  refine q_getI hX gf_X5_27 rfl dX5_copyFrom_2 (at_ORD ha1) ?_
  replace h := wr_e h
  refine q_putI hX pf_X5_27 rfl dX5_copyFrom_5 (at_ORD ha0) rfl rfl ?_
  generalize up2 _ _ _ _ = I1 at h ⊢
  refine q_aload_n hX dX5_copyFrom_8 rfl ?_
  refine q_aload_n hX dX5_copyFrom_9 rfl ?_
  refine q_getI hX gf_X5_31 rfl dX5_copyFrom_10 (at_ORD ha1) ?_
  replace h := wr_e h
  refine q_putI hX pf_X5_31 rfl dX5_copyFrom_13 (at_ORD ha0) rfl rfl ?_
  generalize up2 _ _ _ _ = I2 at h ⊢
  refine q_iconst hX dX5_copyFrom_16 (v := (nI 0)) (by decide) ?_
  refine q_istore_n hX dX5_copyFrom_17 (by decide) (ls' := [_, _, _]) rfl ?_
  exact q_dr (w_X5_copyFrom_b18 hX hT ha0 ha1  _  _ _  h) ⟨Or.inl rfl, Or.inl rfl, Or.inl rfl, trivial⟩
set_option maxRecDepth 100000 in
set_option maxHeartbeats 4000000 in
theorem w_X1_copyFrom {l : Launch} {D : DT} {L : LT} {a0 : Nat} {a1 : Nat} {I : IT} {K : IT → Prop} (ha0 : isHou a0) (ha1 : isHou a1) (h : f_X1_copyFrom a0 a1 I K) : Con2 l D m_X1_copyFrom 3 [.ref a0, .ref a1] 0 0 I L (Pv L K) := by
  refine Con2.of (by decide +kernel) (by simp [Value.category]) (Nat.le_of_ble_eq_true rfl) (fun X hX hT => ?_)
  have hX : OK X D cX1_copyFrom "TeaHouse$House" 2 := hX
  have hT : RT X l D none (P2 (Pv L K)) 3 0 0 := hT
  have hR := hT.room
  change J2 X D 2 0 0 I L 0 [.ref a0, .ref a1] []
  rw [f_X1_copyFrom] at h
  refine q_aload_n hX dX1_copyFrom_0 rfl ?_
  refine q_getR hX gf_X1_12 rfl dX1_copyFrom_1 (at_HOU ha0) (b := (a0 + 1)) (rt_HOU_0 ha0) ?_
  refine q_aload_n hX dX1_copyFrom_4 rfl ?_
  refine q_getR hX gf_X1_12 rfl dX1_copyFrom_5 (at_HOU ha1) (b := (a1 + 1)) (rt_HOU_0 ha1) ?_
  refine q_V_v hX hR (w_X3_copyFrom (ket_hou0 ha0) (ket_hou0 ha1) h) lk_X1_67 (rc2_KET (ket_hou0 ha0)) dX1_copyFrom_8 rfl rfl (Nat.le_of_ble_eq_true rfl) (by omega) (by omega) (by omega) ?_
  intro I1 h
  refine q_aload_n hX dX1_copyFrom_11 rfl ?_
  refine q_getR hX gf_X1_21 rfl dX1_copyFrom_12 (at_HOU ha0) (b := (a0 + 7)) (rt_HOU_1 ha0) ?_
  refine q_aload_n hX dX1_copyFrom_15 rfl ?_
  refine q_getR hX gf_X1_21 rfl dX1_copyFrom_16 (at_HOU ha1) (b := (a1 + 7)) (rt_HOU_1 ha1) ?_
  refine q_V_v hX hR (w_X5_copyFrom (ord_hou1 ha0) (ord_hou1 ha1) h) lk_X1_71 (rc2_ORD (ord_hou1 ha0)) dX1_copyFrom_19 rfl rfl (Nat.le_of_ble_eq_true rfl) (by omega) (by omega) (by omega) ?_
  intro I2 h
  refine q_aload_n hX dX1_copyFrom_22 rfl ?_
  refine q_getR hX gf_X1_28 rfl dX1_copyFrom_23 (at_HOU ha0) (b := (a0 + 13)) (rt_HOU_2 ha0) ?_
  refine q_aload_n hX dX1_copyFrom_26 rfl ?_
  refine q_getR hX gf_X1_28 rfl dX1_copyFrom_27 (at_HOU ha1) (b := (a1 + 13)) (rt_HOU_2 ha1) ?_
  refine q_V_v hX hR (w_X4_copyFrom (led_hou2 ha0) (led_hou2 ha1) h) lk_X1_74 (rc2_LED (led_hou2 ha0)) dX1_copyFrom_30 rfl rfl (Nat.le_of_ble_eq_true rfl) (by omega) (by omega) (by omega) ?_
  intro I3 h
  refine q_aload_n hX dX1_copyFrom_33 rfl ?_
  refine q_aload_n hX dX1_copyFrom_34 rfl ?_
  refine q_getI hX gf_X1_32 rfl dX1_copyFrom_35 (at_HOU ha1) ?_
  replace h := wr_e h
  refine q_putI hX pf_X1_32 rfl dX1_copyFrom_38 (at_HOU ha0) rfl rfl ?_
  generalize up2 _ _ _ _ = I4 at h ⊢
  refine q_aload_n hX dX1_copyFrom_41 rfl ?_
  refine q_aload_n hX dX1_copyFrom_42 rfl ?_
  refine q_getI hX gf_X1_36 rfl dX1_copyFrom_43 (at_HOU ha1) ?_
  replace h := wr_e h
  refine q_putI hX pf_X1_36 rfl dX1_copyFrom_46 (at_HOU ha0) rfl rfl ?_
  generalize up2 _ _ _ _ = I5 at h ⊢
  refine q_aload_n hX dX1_copyFrom_49 rfl ?_
  refine q_aload_n hX dX1_copyFrom_50 rfl ?_
  refine q_getI hX gf_X1_39 rfl dX1_copyFrom_51 (at_HOU ha1) ?_
  replace h := wr_e h
  refine q_putI hX pf_X1_39 rfl dX1_copyFrom_54 (at_HOU ha0) rfl rfl ?_
  generalize up2 _ _ _ _ = I6 at h ⊢
  refine q_aload_n hX dX1_copyFrom_57 rfl ?_
  refine q_aload_n hX dX1_copyFrom_58 rfl ?_
  refine q_getI hX gf_X1_42 rfl dX1_copyFrom_59 (at_HOU ha1) ?_
  replace h := wr_e h
  refine q_putI hX pf_X1_42 rfl dX1_copyFrom_62 (at_HOU ha0) rfl rfl ?_
  generalize up2 _ _ _ _ = I7 at h ⊢
  refine q_aload_n hX dX1_copyFrom_65 rfl ?_
  refine q_aload_n hX dX1_copyFrom_66 rfl ?_
  refine q_getI hX gf_X1_45 rfl dX1_copyFrom_67 (at_HOU ha1) ?_
  replace h := wr_e h
  refine q_putI hX pf_X1_45 rfl dX1_copyFrom_70 (at_HOU ha0) rfl rfl ?_
  generalize up2 _ _ _ _ = I8 at h ⊢
  refine q_aload_n hX dX1_copyFrom_73 rfl ?_
  refine q_aload_n hX dX1_copyFrom_74 rfl ?_
  refine q_getI hX gf_X1_48 rfl dX1_copyFrom_75 (at_HOU ha1) ?_
  replace h := wr_e h
  refine q_putI hX pf_X1_48 rfl dX1_copyFrom_78 (at_HOU ha0) rfl rfl ?_
  generalize up2 _ _ _ _ = I9 at h ⊢
  refine q_aload_n hX dX1_copyFrom_81 rfl ?_
  refine q_aload_n hX dX1_copyFrom_82 rfl ?_
  refine q_getI hX gf_X1_51 rfl dX1_copyFrom_83 (at_HOU ha1) ?_
  replace h := wr_e h
  refine q_putI hX pf_X1_51 rfl dX1_copyFrom_86 (at_HOU ha0) rfl rfl ?_
  generalize up2 _ _ _ _ = I10 at h ⊢
  refine q_aload_n hX dX1_copyFrom_89 rfl ?_
  refine q_aload_n hX dX1_copyFrom_90 rfl ?_
  refine q_getI hX gf_X1_54 rfl dX1_copyFrom_91 (at_HOU ha1) ?_
  obtain ⟨z11, h⟩ := h
  replace h := wr_e h
  refine q_putI hX pf_X1_54 rfl dX1_copyFrom_94 (at_HOU ha0) (nar_z z11) (fit_z z11) ?_
  generalize up2 _ _ _ _ = I12 at h ⊢
  refine q_aload_n hX dX1_copyFrom_97 rfl ?_
  refine q_aload_n hX dX1_copyFrom_98 rfl ?_
  refine q_getI hX gf_X1_58 rfl dX1_copyFrom_99 (at_HOU ha1) ?_
  replace h := wr_e h
  refine q_putI hX pf_X1_58 rfl dX1_copyFrom_102 (at_HOU ha0) rfl rfl ?_
  generalize up2 _ _ _ _ = I13 at h ⊢
  refine q_aload_n hX dX1_copyFrom_105 rfl ?_
  refine q_aload_n hX dX1_copyFrom_106 rfl ?_
  refine q_getI hX gf_X1_61 rfl dX1_copyFrom_107 (at_HOU ha1) ?_
  replace h := wr_e h
  refine q_putI hX pf_X1_61 rfl dX1_copyFrom_110 (at_HOU ha0) rfl rfl ?_
  generalize up2 _ _ _ _ = I14 at h ⊢
  refine q_aload_n hX dX1_copyFrom_113 rfl ?_
  refine q_aload_n hX dX1_copyFrom_114 rfl ?_
  refine q_getI hX gf_X1_64 rfl dX1_copyFrom_115 (at_HOU ha1) ?_
  replace h := wr_e h
  refine q_putI hX pf_X1_64 rfl dX1_copyFrom_118 (at_HOU ha0) rfl rfl ?_
  generalize up2 _ _ _ _ = I15 at h ⊢
  exact q_vret hX hT dX1_copyFrom_121 h
set_option maxRecDepth 100000 in
set_option maxHeartbeats 4000000 in
theorem w_X3_suitable_b12 {X : XT} {D : DT} {l : Launch} {L : LT} {a0 : Nat} {a1 : Int32} {a2 : Int32} {I : IT} {K : Int32 → Prop} (hX : OK X D cX3_suitable "TeaHouse$Kettles" 6) (hT : RT X l D (some .int) (P2 (Pi L (fun x I' => I' = I ∧ K x))) 1 0 0) (ha0 : isKet a0)  : ∀ (n : Nat), ∀ (v3 : Int32) (v4 : Int32) (v5 : Int32), f_X3_suitable_b12 a0 a1 a2 I K n v3 v4 v5 → J2 X D 6 0 0 I L 12 [.ref a0, .int a1, .retAddr 0, .int v3, .int v4, .int v5] [] := by
  have hR := hT.room
  intro n
  induction n with
  | zero => intro v3 v4 v5 h; exact False.elim h
  | succ n ih =>
    intro v3 v4 v5 h
    rw [f_X3_suitable_b12] at h
    refine q_iload hX dX3_suitable_12 rfl ?_
    refine q_aload_n hX dX3_suitable_14 rfl ?_
    refine q_getI hX gf_X3_28 rfl dX3_suitable_15 (at_KET ha0) ?_
    refine q_icmp_ge hX dX3_suitable_18 (tgt := 64) (by decide) (fun q1 => ?_) (fun q1 => ?_)
    · replace h := ite_t q1 h
      refine q_iload_n hX dX3_suitable_64 rfl ?_
      exact q_iretp hX hT dX3_suitable_65 h
    · replace h := ite_f q1 h
      refine q_aload_n hX dX3_suitable_21 rfl ?_
      refine q_getR hX gf_X3_15 rfl dX3_suitable_22 (at_KET ha0) (b := (a0 + 2)) (rt_KET_1 ha0) ?_
      refine q_iload hX dX3_suitable_25 rfl ?_
      obtain ⟨z2, h⟩ := h
      refine q_iald hX dX3_suitable_27 (aa_KET_1 ha0) (inr_e z2) (inr_lt z2) (by decide) ?_
      refine q_iload_n hX dX3_suitable_28 rfl ?_
      refine q_iconst hX dX3_suitable_29 (v := (nI 2)) (by decide) ?_
      refine q_imul hX dX3_suitable_30 ?_
      refine q_icmp_lt hX dX3_suitable_31 (tgt := 58) (by decide) (fun q3 => ?_) (fun q3 => ?_)
      · replace h := ite_t q3 h
        replace h := bnd_e h
        refine q_iinc hX dX3_suitable_58 (by decide) rfl (v := _ + nI 1) (ls' := [_, _, _, _, _, _]) rfl rfl ?_
        refine q_goto hX dX3_suitable_61 (tgt := 12) (by decide) ?_
        exact q_dr (ih _ _ _  h) ⟨Or.inl rfl, Or.inl rfl, Or.inl rfl, Or.inl rfl, Or.inl rfl, Or.inl rfl, trivial⟩
      · replace h := ite_f q3 h
        refine q_aload_n hX dX3_suitable_34 rfl ?_
        refine q_getR hX gf_X3_18 rfl dX3_suitable_35 (at_KET ha0) (b := (a0 + 3)) (rt_KET_2 ha0) ?_
        refine q_iload hX dX3_suitable_38 rfl ?_
        refine q_iald hX dX3_suitable_40 (aa_KET_2 ha0) (inr_e z2) (inr_lt z2) (by decide) ?_
        refine q_iload hX dX3_suitable_41 rfl ?_
        refine q_icmp_le hX dX3_suitable_43 (tgt := 58) (by decide) (fun q5 => ?_) (fun q5 => ?_)
        · replace h := ite_t q5 h
          replace h := bnd_e h
          refine q_iinc hX dX3_suitable_58 (by decide) rfl (v := _ + nI 1) (ls' := [_, _, _, _, _, _]) rfl rfl ?_
          refine q_goto hX dX3_suitable_61 (tgt := 12) (by decide) ?_
          exact q_dr (ih _ _ _  h) ⟨Or.inl rfl, Or.inl rfl, Or.inl rfl, Or.inl rfl, Or.inl rfl, Or.inl rfl, trivial⟩
        · replace h := ite_f q5 h
          refine q_iload hX dX3_suitable_46 rfl ?_
          refine q_istore_n hX dX3_suitable_48 (by decide) (ls' := [_, _, _, _, _, _]) rfl ?_
          refine q_aload_n hX dX3_suitable_49 rfl ?_
          refine q_getR hX gf_X3_18 rfl dX3_suitable_50 (at_KET ha0) (b := (a0 + 3)) (rt_KET_2 ha0) ?_
          refine q_iload hX dX3_suitable_53 rfl ?_
          refine q_iald hX dX3_suitable_55 (aa_KET_2 ha0) (inr_e z2) (inr_lt z2) (by decide) ?_
          replace h := bnd_e h
          refine q_istore hX dX3_suitable_56 (by decide) (ls' := [_, _, _, _, _, _]) rfl ?_
          replace h := bnd_e h
          refine q_iinc hX dX3_suitable_58 (by decide) rfl (v := _ + nI 1) (ls' := [_, _, _, _, _, _]) rfl rfl ?_
          refine q_goto hX dX3_suitable_61 (tgt := 12) (by decide) ?_
          exact q_dr (ih _ _ _  h) ⟨Or.inl rfl, Or.inl rfl, Or.inl rfl, Or.inl rfl, Or.inl rfl, Or.inl rfl, trivial⟩
set_option maxRecDepth 100000 in
set_option maxHeartbeats 4000000 in
theorem w_X3_suitable {l : Launch} {D : DT} {L : LT} {a0 : Nat} {a1 : Int32} {a2 : Int32} {I : IT} {K : Int32 → Prop} (ha0 : isKet a0) (h : f_X3_suitable a0 a1 a2 I K) : Con2 l D m_X3_suitable 1 [.ref a0, .int a1, .int a2] 0 0 I L (Pi L (fun x I' => I' = I ∧ K x)) := by
  refine Con2.of (by decide +kernel) (by simp [Value.category]) (Nat.le_of_ble_eq_true rfl) (fun X hX hT => ?_)
  have hX : OK X D cX3_suitable "TeaHouse$Kettles" 6 := hX
  have hT : RT X l D (some .int) (P2 (Pi L (fun x I' => I' = I ∧ K x))) 1 0 0 := hT
  have hR := hT.room
  change J2 X D 6 0 0 I L 0 [.ref a0, .int a1, .int a2, .retAddr 0, .retAddr 0, .retAddr 0] []
  rw [f_X3_suitable] at h
  refine q_iconst hX dX3_suitable_0 (v := (-1)) (by decide) ?_
  refine q_istore_n hX dX3_suitable_1 (by decide) (ls' := [_, _, _, _, _, _]) rfl ?_
  refine q_iload_n hX dX3_suitable_2 rfl ?_
  refine q_iconst hX dX3_suitable_3 (v := (nI 2)) (by decide) ?_
  refine q_imul hX dX3_suitable_4 ?_
  refine q_iconst hX dX3_suitable_5 (v := (nI 1)) (by decide) ?_
  refine q_isub hX dX3_suitable_6 ?_
  replace h := bnd_e h
  refine q_istore hX dX3_suitable_7 (by decide) (ls' := [_, _, _, _, _, _]) rfl ?_
  refine q_iconst hX dX3_suitable_9 (v := (nI 0)) (by decide) ?_
  refine q_istore hX dX3_suitable_10 (by decide) (ls' := [_, _, _, _, _, _]) rfl ?_
  exact q_dr (w_X3_suitable_b12 hX hT ha0  _  _ _ _  h) ⟨Or.inl rfl, Or.inl rfl, Or.inr rfl, Or.inl rfl, Or.inl rfl, Or.inl rfl, trivial⟩
set_option maxRecDepth 100000 in
set_option maxHeartbeats 4000000 in
theorem w_X1_kettleForFirst {l : Launch} {D : DT} {L : LT} {a0 : Nat} {I : IT} {K : Int32 → Prop} (ha0 : isHou a0) (h : f_X1_kettleForFirst a0 I K) : Con2 l D m_X1_kettleForFirst 2 [.ref a0] 0 0 I L (Pi L (fun x I' => I' = I ∧ K x)) := by
  refine Con2.of (by decide +kernel) (by simp [Value.category]) (Nat.le_of_ble_eq_true rfl) (fun X hX hT => ?_)
  have hX : OK X D cX1_kettleForFirst "TeaHouse$House" 1 := hX
  have hT : RT X l D (some .int) (P2 (Pi L (fun x I' => I' = I ∧ K x))) 2 0 0 := hT
  have hR := hT.room
  change J2 X D 1 0 0 I L 0 [.ref a0] []
  rw [f_X1_kettleForFirst] at h
  refine q_aload_n hX dX1_kettleForFirst_0 rfl ?_
  refine q_getR hX gf_X1_21 rfl dX1_kettleForFirst_1 (at_HOU ha0) (b := (a0 + 7)) (rt_HOU_1 ha0) ?_
  refine q_getI hX gf_X1_114 rfl dX1_kettleForFirst_4 (at_ORD (ord_hou1 ha0)) ?_
  refine q_if_le hX dX1_kettleForFirst_7 (tgt := 38) (by decide) (fun q1 => ?_) (fun q1 => ?_)
  · replace h := ite_t q1 h
    refine q_iconst hX dX1_kettleForFirst_38 (v := (-1)) (by decide) ?_
    exact q_iretp hX hT dX1_kettleForFirst_39 h
  · replace h := ite_f q1 h
    refine q_aload_n hX dX1_kettleForFirst_10 rfl ?_
    refine q_getR hX gf_X1_12 rfl dX1_kettleForFirst_11 (at_HOU ha0) (b := (a0 + 1)) (rt_HOU_0 ha0) ?_
    refine q_aload_n hX dX1_kettleForFirst_14 rfl ?_
    refine q_getR hX gf_X1_21 rfl dX1_kettleForFirst_15 (at_HOU ha0) (b := (a0 + 7)) (rt_HOU_1 ha0) ?_
    refine q_getR hX gf_X1_181 rfl dX1_kettleForFirst_18 (at_ORD (ord_hou1 ha0)) (b := (a0 + 10)) (rt_ORD_2 (ord_hou1 ha0)) ?_
    refine q_iconst hX dX1_kettleForFirst_21 (v := (nI 0)) (by decide) ?_
    refine q_iald hX dX1_kettleForFirst_22 (aa_ORD_2 (ord_hou1 ha0)) (j := 0) rfl (by decide) (by decide) ?_
    refine q_aload_n hX dX1_kettleForFirst_23 rfl ?_
    refine q_getR hX gf_X1_21 rfl dX1_kettleForFirst_24 (at_HOU ha0) (b := (a0 + 7)) (rt_HOU_1 ha0) ?_
    refine q_getR hX gf_X1_184 rfl dX1_kettleForFirst_27 (at_ORD (ord_hou1 ha0)) (b := (a0 + 11)) (rt_ORD_3 (ord_hou1 ha0)) ?_
    refine q_iconst hX dX1_kettleForFirst_30 (v := (nI 0)) (by decide) ?_
    refine q_iald hX dX1_kettleForFirst_31 (aa_ORD_3 (ord_hou1 ha0)) (j := 0) rfl (by decide) (by decide) ?_
    refine q_V_ip hX hR (w_X3_suitable (ket_hou0 ha0) h) lk_X1_187 (rc2_KET (ket_hou0 ha0)) dX1_kettleForFirst_32 rfl rfl (Nat.le_of_ble_eq_true rfl) (by omega) (by omega) (by omega) ?_
    intro x2 h
    refine q_goto hX dX1_kettleForFirst_35 (tgt := 39) (by decide) ?_
    exact q_iretp hX hT dX1_kettleForFirst_39 h
set_option maxRecDepth 100000 in
set_option maxHeartbeats 4000000 in
theorem w_X1_firstCanBeServed {l : Launch} {D : DT} {L : LT} {a0 : Nat} {I : IT} {K : Int32 → Prop} (ha0 : isHou a0) (h : f_X1_firstCanBeServed a0 I K) : Con2 l D m_X1_firstCanBeServed 3 [.ref a0] 0 0 I L (Pz L (fun x I' => I' = I ∧ K x)) := by
  refine Con2.of (by decide +kernel) (by simp [Value.category]) (Nat.le_of_ble_eq_true rfl) (fun X hX hT => ?_)
  have hX : OK X D cX1_firstCanBeServed "TeaHouse$House" 1 := hX
  have hT : RT X l D (some .boolean) (P2 (Pz L (fun x I' => I' = I ∧ K x))) 3 0 0 := hT
  have hR := hT.room
  change J2 X D 1 0 0 I L 0 [.ref a0] []
  rw [f_X1_firstCanBeServed] at h
  refine q_aload_n hX dX1_firstCanBeServed_0 rfl ?_
  refine q_V_ip hX hR (w_X1_kettleForFirst ha0 h) lk_X1_190 (rc2_HOU ha0) dX1_firstCanBeServed_1 rfl rfl (Nat.le_of_ble_eq_true rfl) (by omega) (by omega) (by omega) ?_
  intro x1 h
  refine q_iconst hX dX1_firstCanBeServed_4 (v := (-1)) (by decide) ?_
  refine q_icmp_eq hX dX1_firstCanBeServed_5 (tgt := 28) (by decide) (fun q2 => ?_) (fun q2 => ?_)
  · replace h := ite_t q2 h
    refine q_iconst hX dX1_firstCanBeServed_28 (v := (nI 0)) (by decide) ?_
    exact q_zretp hX hT dX1_firstCanBeServed_29 (Or.inl rfl) h
  · replace h := ite_f q2 h
    refine q_aload_n hX dX1_firstCanBeServed_8 rfl ?_
    refine q_getR hX gf_X1_21 rfl dX1_firstCanBeServed_9 (at_HOU ha0) (b := (a0 + 7)) (rt_HOU_1 ha0) ?_
    refine q_getR hX gf_X1_181 rfl dX1_firstCanBeServed_12 (at_ORD (ord_hou1 ha0)) (b := (a0 + 10)) (rt_ORD_2 (ord_hou1 ha0)) ?_
    refine q_iconst hX dX1_firstCanBeServed_15 (v := (nI 0)) (by decide) ?_
    refine q_iald hX dX1_firstCanBeServed_16 (aa_ORD_2 (ord_hou1 ha0)) (j := 0) rfl (by decide) (by decide) ?_
    refine q_aload_n hX dX1_firstCanBeServed_17 rfl ?_
    refine q_getI hX gf_X1_32 rfl dX1_firstCanBeServed_18 (at_HOU ha0) ?_
    refine q_icmp_gt hX dX1_firstCanBeServed_21 (tgt := 28) (by decide) (fun q3 => ?_) (fun q3 => ?_)
    · replace h := ite_t q3 h
      refine q_iconst hX dX1_firstCanBeServed_28 (v := (nI 0)) (by decide) ?_
      exact q_zretp hX hT dX1_firstCanBeServed_29 (Or.inl rfl) h
    · replace h := ite_f q3 h
      refine q_iconst hX dX1_firstCanBeServed_24 (v := (nI 1)) (by decide) ?_
      refine q_goto hX dX1_firstCanBeServed_25 (tgt := 29) (by decide) ?_
      exact q_zretp hX hT dX1_firstCanBeServed_29 (Or.inr rfl) h
set_option maxRecDepth 100000 in
set_option maxHeartbeats 4000000 in
theorem w_X1_unless {l : Launch} {D : DT} {L : LT} {a0 : Int32} {a1 : Int32} {I : IT} {K : Nat → Prop} (ha0 : isZ a0) (ha1 : isZ a1) (h : f_X1_unless a0 a1 I K) : Con2 l D m_X1_unless 1 [.int a0, .int a1] 0 0 I L (Pa isRfs L (fun x I' => I' = I ∧ K x)) := by
  refine Con2.of (by decide +kernel) (by simp [Value.category]) (Nat.le_of_ble_eq_true rfl) (fun X hX hT => ?_)
  have hX : OK X D cX1_unless "TeaHouse$House" 2 := hX
  have hT : RT X l D (some (.object "TeaHouse$Refusal")) (P2 (Pa isRfs L (fun x I' => I' = I ∧ K x))) 1 0 0 := hT
  have hR := hT.room
  change J2 X D 2 0 0 I L 0 [.int a0, .int a1] []
  rw [f_X1_unless] at h
  refine q_iload_n hX dX1_unless_0 rfl ?_
  refine q_if_ne hX dX1_unless_1 (tgt := 8) (by decide) (fun q1 => ?_) (fun q1 => ?_)
  · replace h := ite_f q1 h
    refine q_iload_n hX dX1_unless_8 rfl ?_
    refine q_if_eq hX dX1_unless_9 (tgt := 18) (by decide) (fun q2 => ?_) (fun q2 => ?_)
    · replace h := ite_t q2 h
      refine q_gets hX (q := ("TeaHouse$Refusal", "NOT_NOW", "LTeaHouse$Refusal;", .ref 1000023)) (by decide +kernel) gs_X1_172 dX1_unless_18 ?_
      exact q_aretp hX hT dX1_unless_21 ⟨by decide, by decide⟩ h
    · replace h := ite_f q2 h
      refine q_gets hX (q := ("TeaHouse$Refusal", "NOTHING", "LTeaHouse$Refusal;", .ref 1000020)) (by decide +kernel) gs_X1_122 dX1_unless_12 ?_
      refine q_goto hX dX1_unless_15 (tgt := 21) (by decide) ?_
      exact q_aretp hX hT dX1_unless_21 ⟨by decide, by decide⟩ h
  · replace h := ite_t q1 h
    refine q_gets hX (q := ("TeaHouse$Refusal", "OUT_OF_RANGE", "LTeaHouse$Refusal;", .ref 1000022)) (by decide +kernel) gs_X1_169 dX1_unless_4 ?_
    exact q_aretp hX hT dX1_unless_7 ⟨by decide, by decide⟩ h
set_option maxRecDepth 100000 in
set_option maxHeartbeats 4000000 in
theorem w_X3_has {l : Launch} {D : DT} {L : LT} {a0 : Nat} {a1 : Int32} {I : IT} {K : Int32 → Prop} (ha0 : isKet a0) (h : f_X3_has a0 a1 I K) : Con2 l D m_X3_has 1 [.ref a0, .int a1] 0 0 I L (Pz L (fun x I' => I' = I ∧ K x)) := by
  refine Con2.of (by decide +kernel) (by simp [Value.category]) (Nat.le_of_ble_eq_true rfl) (fun X hX hT => ?_)
  have hX : OK X D cX3_has "TeaHouse$Kettles" 2 := hX
  have hT : RT X l D (some .boolean) (P2 (Pz L (fun x I' => I' = I ∧ K x))) 1 0 0 := hT
  have hR := hT.room
  change J2 X D 2 0 0 I L 0 [.ref a0, .int a1] []
  rw [f_X3_has] at h
  refine q_iload_n hX dX3_has_0 rfl ?_
  refine q_if_lt hX dX3_has_1 (tgt := 16) (by decide) (fun q1 => ?_) (fun q1 => ?_)
  · replace h := ite_t q1 h
    refine q_iconst hX dX3_has_16 (v := (nI 0)) (by decide) ?_
    exact q_zretp hX hT dX3_has_17 (Or.inl rfl) h
  · replace h := ite_f q1 h
    refine q_iload_n hX dX3_has_4 rfl ?_
    refine q_aload_n hX dX3_has_5 rfl ?_
    refine q_getI hX gf_X3_28 rfl dX3_has_6 (at_KET ha0) ?_
    refine q_icmp_ge hX dX3_has_9 (tgt := 16) (by decide) (fun q2 => ?_) (fun q2 => ?_)
    · replace h := ite_t q2 h
      refine q_iconst hX dX3_has_16 (v := (nI 0)) (by decide) ?_
      exact q_zretp hX hT dX3_has_17 (Or.inl rfl) h
    · replace h := ite_f q2 h
      refine q_iconst hX dX3_has_12 (v := (nI 1)) (by decide) ?_
      refine q_goto hX dX3_has_13 (tgt := 17) (by decide) ?_
      exact q_zretp hX hT dX3_has_17 (Or.inr rfl) h
set_option maxRecDepth 100000 in
set_option maxHeartbeats 4000000 in
theorem w_X8_isWithin {l : Launch} {D : DT} {L : LT} {a0 : Int32} {a1 : Int32} {a2 : Int32} {I : IT} {K : Int32 → Prop}  (h : f_X8_isWithin a0 a1 a2 I K) : Con2 l D m_X8_isWithin 1 [.int a0, .int a1, .int a2] 0 0 I L (Pz L (fun x I' => I' = I ∧ K x)) := by
  refine Con2.of (by decide +kernel) (by simp [Value.category]) (Nat.le_of_ble_eq_true rfl) (fun X hX hT => ?_)
  have hX : OK X D cX8_isWithin "TeaHouse" 3 := hX
  have hT : RT X l D (some .boolean) (P2 (Pz L (fun x I' => I' = I ∧ K x))) 1 0 0 := hT
  have hR := hT.room
  change J2 X D 3 0 0 I L 0 [.int a0, .int a1, .int a2] []
  rw [f_X8_isWithin] at h
  refine q_iload_n hX dX8_isWithin_0 rfl ?_
  refine q_iload_n hX dX8_isWithin_1 rfl ?_
  refine q_icmp_lt hX dX8_isWithin_2 (tgt := 14) (by decide) (fun q1 => ?_) (fun q1 => ?_)
  · replace h := ite_t q1 h
    refine q_iconst hX dX8_isWithin_14 (v := (nI 0)) (by decide) ?_
    exact q_zretp hX hT dX8_isWithin_15 (Or.inl rfl) h
  · replace h := ite_f q1 h
    refine q_iload_n hX dX8_isWithin_5 rfl ?_
    refine q_iload_n hX dX8_isWithin_6 rfl ?_
    refine q_icmp_gt hX dX8_isWithin_7 (tgt := 14) (by decide) (fun q2 => ?_) (fun q2 => ?_)
    · replace h := ite_t q2 h
      refine q_iconst hX dX8_isWithin_14 (v := (nI 0)) (by decide) ?_
      exact q_zretp hX hT dX8_isWithin_15 (Or.inl rfl) h
    · replace h := ite_f q2 h
      refine q_iconst hX dX8_isWithin_10 (v := (nI 1)) (by decide) ?_
      refine q_goto hX dX8_isWithin_11 (tgt := 15) (by decide) ?_
      exact q_zretp hX hT dX8_isWithin_15 (Or.inr rfl) h
set_option maxRecDepth 100000 in
set_option maxHeartbeats 4000000 in
theorem w_X1_refusalToFill_b54 {X : XT} {D : DT} {l : Launch} {L : LT} {a0 : Nat} {a1 : Int32} {a2 : Int32} {I : IT} {K : Nat → Prop} (hX : OK X D cX1_refusalToFill "TeaHouse$House" 4) (hT : RT X l D (some (.object "TeaHouse$Refusal")) (P2 (Pa isRfs L (fun x I' => I' = I ∧ K x))) 2 0 0) (ha0 : isHou a0)  : ∀ (s0 : Int32) (s1 : Int32), isZ s0 → isZ s1 → isC s1 → f_X1_refusalToFill_b54 a0 a1 a2 I K s0 s1 → J2 X D 4 0 0 I L 54 [.retAddr 0, .retAddr 0, .retAddr 0, .retAddr 0] [.int s1, .int s0] := by
  have hR := hT.room
  intro s0 s1 hzs0 hzs1 hcs1 h
  rw [f_X1_refusalToFill_b54] at h
  refine q_S_ap hX hR (w_X1_unless hzs0 hzs1 h) lk_X1_96 dX1_refusalToFill_54 rfl rfl (Nat.le_of_ble_eq_true rfl) (by omega) (by omega) (by omega) ?_
  intro x1 hrx1 h
  exact q_aretp hX hT dX1_refusalToFill_57 hrx1 h
set_option maxRecDepth 100000 in
set_option maxHeartbeats 4000000 in
theorem w_X1_refusalToFill {l : Launch} {D : DT} {L : LT} {a0 : Nat} {a1 : Int32} {a2 : Int32} {I : IT} {K : Nat → Prop} (ha0 : isHou a0) (h : f_X1_refusalToFill a0 a1 a2 I K) : Con2 l D m_X1_refusalToFill 2 [.ref a0, .int a1, .int a2] 0 0 I L (Pa isRfs L (fun x I' => I' = I ∧ K x)) := by
  refine Con2.of (by decide +kernel) (by simp [Value.category]) (Nat.le_of_ble_eq_true rfl) (fun X hX hT => ?_)
  have hX : OK X D cX1_refusalToFill "TeaHouse$House" 4 := hX
  have hT : RT X l D (some (.object "TeaHouse$Refusal")) (P2 (Pa isRfs L (fun x I' => I' = I ∧ K x))) 2 0 0 := hT
  have hR := hT.room
  change J2 X D 4 0 0 I L 0 [.ref a0, .int a1, .int a2, .retAddr 0] []
  rw [f_X1_refusalToFill] at h
  refine q_aload_n hX dX1_refusalToFill_0 rfl ?_
  refine q_getR hX gf_X1_12 rfl dX1_refusalToFill_1 (at_HOU ha0) (b := (a0 + 1)) (rt_HOU_0 ha0) ?_
  refine q_iload_n hX dX1_refusalToFill_4 rfl ?_
  refine q_V_zp hX hR (w_X3_has (ket_hou0 ha0) h) lk_X1_104 (rc2_KET (ket_hou0 ha0)) dX1_refusalToFill_5 rfl rfl (Nat.le_of_ble_eq_true rfl) (by omega) (by omega) (by omega) ?_
  intro x1 hrx1 h
  refine q_if_ne hX dX1_refusalToFill_8 (tgt := 15) (by decide) (fun q2 => ?_) (fun q2 => ?_)
  · replace h := ite_f q2 h
    refine q_aload_n hX dX1_refusalToFill_15 rfl ?_
    refine q_getR hX gf_X1_12 rfl dX1_refusalToFill_16 (at_HOU ha0) (b := (a0 + 1)) (rt_HOU_0 ha0) ?_
    refine q_getR hX gf_X1_175 rfl dX1_refusalToFill_19 (at_KET (ket_hou0 ha0)) (b := (a0 + 3)) (rt_KET_1 (ket_hou0 ha0)) ?_
    refine q_iload_n hX dX1_refusalToFill_22 rfl ?_
    obtain ⟨z3, h⟩ := h
    refine q_iald hX dX1_refusalToFill_23 (aa_KET_1 (ket_hou0 ha0)) (inr_e z3) (inr_lt z3) (by decide) ?_
    refine q_iload_n hX dX1_refusalToFill_24 rfl ?_
    refine q_iconst hX dX1_refusalToFill_25 (v := (nI 2)) (by decide) ?_
    refine q_imul hX dX1_refusalToFill_26 ?_
    refine q_iadd hX dX1_refusalToFill_27 ?_
    replace h := bnd_e h
    refine q_istore_n hX dX1_refusalToFill_28 (by decide) (ls' := [_, _, _, _]) rfl ?_
    refine q_iload_n hX dX1_refusalToFill_29 rfl ?_
    refine q_iconst hX dX1_refusalToFill_30 (v := (nI 1)) (by decide) ?_
    refine q_bipush hX dX1_refusalToFill_31 (v := (nI 16)) (by decide) ?_
    refine q_SN_zp hX hR (w_X8_isWithin  h) lk_X1_89 dX1_refusalToFill_33 rfl rfl (Nat.le_of_ble_eq_true rfl) (by omega) (by omega) (by omega) ?_
    intro x5 hrx5 h
    refine q_iload_n hX dX1_refusalToFill_36 rfl ?_
    refine q_aload_n hX dX1_refusalToFill_37 rfl ?_
    refine q_getR hX gf_X1_12 rfl dX1_refusalToFill_38 (at_HOU ha0) (b := (a0 + 1)) (rt_HOU_0 ha0) ?_
    refine q_getR hX gf_X1_178 rfl dX1_refusalToFill_41 (at_KET (ket_hou0 ha0)) (b := (a0 + 2)) (rt_KET_0 (ket_hou0 ha0)) ?_
    refine q_iload_n hX dX1_refusalToFill_44 rfl ?_
    refine q_iald hX dX1_refusalToFill_45 (aa_KET_0 (ket_hou0 ha0)) (inr_e z3) (inr_lt z3) (by decide) ?_
    refine q_icmp_gt hX dX1_refusalToFill_46 (tgt := 53) (by decide) (fun q6 => ?_) (fun q6 => ?_)
    · replace h := ite_t q6 h
      refine q_iconst hX dX1_refusalToFill_53 (v := (nI 0)) (by decide) ?_
      exact q_dr (w_X1_refusalToFill_b54 hX hT ha0   _ _ hrx5 (Or.inl rfl) (isC_n (by decide)) h) ⟨Or.inr rfl, Or.inr rfl, Or.inr rfl, Or.inr rfl, trivial⟩
    · replace h := ite_f q6 h
      refine q_iconst hX dX1_refusalToFill_49 (v := (nI 1)) (by decide) ?_
      refine q_goto hX dX1_refusalToFill_50 (tgt := 54) (by decide) ?_
      exact q_dr (w_X1_refusalToFill_b54 hX hT ha0   _ _ hrx5 (Or.inr rfl) (isC_n (by decide)) h) ⟨Or.inr rfl, Or.inr rfl, Or.inr rfl, Or.inr rfl, trivial⟩
  · replace h := ite_t q2 h
    refine q_gets hX (q := ("TeaHouse$Refusal", "NO_SUCH_KETTLE", "LTeaHouse$Refusal;", .ref 1000021)) (by decide +kernel) gs_X1_108 dX1_refusalToFill_11 ?_
    exact q_aretp hX hT dX1_refusalToFill_14 ⟨by decide, by decide⟩ h
set_option maxRecDepth 100000 in
set_option maxHeartbeats 4000000 in
theorem w_X5_find_b2 {X : XT} {D : DT} {l : Launch} {L : LT} {a0 : Nat} {a1 : Int32} {I : IT} {K : Int32 → Prop} (hX : OK X D cX5_find "TeaHouse$Orders" 3) (hT : RT X l D (some .int) (P2 (Pi L (fun x I' => I' = I ∧ K x))) 1 0 0) (ha0 : isOrd a0)  : ∀ (n : Nat), ∀ (v2 : Int32), f_X5_find_b2 a0 a1 I K n v2 → J2 X D 3 0 0 I L 2 [.ref a0, .int a1, .int v2] [] := by
  have hR := hT.room
  intro n
  induction n with
  | zero => intro v2 h; exact False.elim h
  | succ n ih =>
    intro v2 h
    rw [f_X5_find_b2] at h
    refine q_iload_n hX dX5_find_2 rfl ?_
    refine q_aload_n hX dX5_find_3 rfl ?_
    refine q_getI hX gf_X5_27 rfl dX5_find_4 (at_ORD ha0) ?_
    refine q_icmp_ge hX dX5_find_7 (tgt := 28) (by decide) (fun q1 => ?_) (fun q1 => ?_)
    · replace h := ite_t q1 h
      refine q_iconst hX dX5_find_28 (v := (-1)) (by decide) ?_
      exact q_iretp hX hT dX5_find_29 h
    · replace h := ite_f q1 h
      refine q_aload_n hX dX5_find_10 rfl ?_
      refine q_getR hX gf_X5_9 rfl dX5_find_11 (at_ORD ha0) (b := (a0 + 1)) (rt_ORD_0 ha0) ?_
      refine q_iload_n hX dX5_find_14 rfl ?_
      obtain ⟨z2, h⟩ := h
      refine q_iald hX dX5_find_15 (aa_ORD_0 ha0) (inr_e z2) (inr_lt z2) (by decide) ?_
      refine q_iload_n hX dX5_find_16 rfl ?_
      refine q_icmp_ne hX dX5_find_17 (tgt := 22) (by decide) (fun q3 => ?_) (fun q3 => ?_)
      · replace h := ite_f q3 h
        replace h := bnd_e h
        refine q_iinc hX dX5_find_22 (by decide) rfl (v := _ + nI 1) (ls' := [_, _, _]) rfl rfl ?_
        refine q_goto hX dX5_find_25 (tgt := 2) (by decide) ?_
        exact q_dr (ih _  h) ⟨Or.inl rfl, Or.inl rfl, Or.inl rfl, trivial⟩
      · replace h := ite_t q3 h
        refine q_iload_n hX dX5_find_20 rfl ?_
        exact q_iretp hX hT dX5_find_21 h
set_option maxRecDepth 100000 in
set_option maxHeartbeats 4000000 in
theorem w_X5_find {l : Launch} {D : DT} {L : LT} {a0 : Nat} {a1 : Int32} {I : IT} {K : Int32 → Prop} (ha0 : isOrd a0) (h : f_X5_find a0 a1 I K) : Con2 l D m_X5_find 1 [.ref a0, .int a1] 0 0 I L (Pi L (fun x I' => I' = I ∧ K x)) := by
  refine Con2.of (by decide +kernel) (by simp [Value.category]) (Nat.le_of_ble_eq_true rfl) (fun X hX hT => ?_)
  have hX : OK X D cX5_find "TeaHouse$Orders" 3 := hX
  have hT : RT X l D (some .int) (P2 (Pi L (fun x I' => I' = I ∧ K x))) 1 0 0 := hT
  have hR := hT.room
  change J2 X D 3 0 0 I L 0 [.ref a0, .int a1, .retAddr 0] []
  rw [f_X5_find] at h
  refine q_iconst hX dX5_find_0 (v := (nI 0)) (by decide) ?_
  refine q_istore_n hX dX5_find_1 (by decide) (ls' := [_, _, _]) rfl ?_
  exact q_dr (w_X5_find_b2 hX hT ha0  _  _  h) ⟨Or.inl rfl, Or.inl rfl, Or.inl rfl, trivial⟩
set_option maxRecDepth 100000 in
set_option maxHeartbeats 4000000 in
theorem w_X1_refusal_b95 {X : XT} {D : DT} {l : Launch} {L : LT} {a0 : Nat} {a1 : Nat} {a2 : Int32} {a3 : Int32} {a4 : Int32} {a5 : Int32} {I : IT} {K : Nat → Prop} (hX : OK X D cX1_refusal "TeaHouse$House" 6) (hT : RT X l D (some (.object "TeaHouse$Refusal")) (P2 (Pa isRfs L (fun x I' => I' = I ∧ K x))) 4 0 0) (ha0 : isHou a0) (ha1 : isVer a1)  : ∀ (s0 : Int32) (s1 : Int32), isZ s0 → isZ s1 → isC s1 → f_X1_refusal_b95 a0 a1 a2 a3 a4 a5 I K s0 s1 → J2 X D 6 0 0 I L 95 [.retAddr 0, .retAddr 0, .retAddr 0, .retAddr 0, .retAddr 0, .retAddr 0] [.int s1, .int s0] := by
  have hR := hT.room
  intro s0 s1 hzs0 hzs1 hcs1 h
  rw [f_X1_refusal_b95] at h
  refine q_S_ap hX hR (w_X1_unless hzs0 hzs1 h) lk_X1_96 dX1_refusal_95 rfl rfl (Nat.le_of_ble_eq_true rfl) (by omega) (by omega) (by omega) ?_
  intro x1 hrx1 h
  exact q_aretp hX hT dX1_refusal_98 hrx1 h
set_option maxRecDepth 100000 in
set_option maxHeartbeats 4000000 in
theorem w_X1_refusal_b199 {X : XT} {D : DT} {l : Launch} {L : LT} {a0 : Nat} {a1 : Nat} {a2 : Int32} {a3 : Int32} {a4 : Int32} {a5 : Int32} {I : IT} {K : Nat → Prop} (hX : OK X D cX1_refusal "TeaHouse$House" 6) (hT : RT X l D (some (.object "TeaHouse$Refusal")) (P2 (Pa isRfs L (fun x I' => I' = I ∧ K x))) 4 0 0) (ha0 : isHou a0) (ha1 : isVer a1)  : ∀ (s0 : Int32) (s1 : Int32), isZ s0 → isC s0 → isZ s1 → isC s1 → f_X1_refusal_b199 a0 a1 a2 a3 a4 a5 I K s0 s1 → J2 X D 6 0 0 I L 199 [.retAddr 0, .retAddr 0, .retAddr 0, .retAddr 0, .retAddr 0, .retAddr 0] [.int s1, .int s0] := by
  have hR := hT.room
  intro s0 s1 hzs0 hcs0 hzs1 hcs1 h
  rw [f_X1_refusal_b199] at h
  refine q_S_ap hX hR (w_X1_unless hzs0 hzs1 h) lk_X1_96 dX1_refusal_199 rfl rfl (Nat.le_of_ble_eq_true rfl) (by omega) (by omega) (by omega) ?_
  intro x1 hrx1 h
  exact q_aretp hX hT dX1_refusal_202 hrx1 h
set_option maxRecDepth 100000 in
set_option maxHeartbeats 4000000 in
theorem w_X1_refusal_b182 {X : XT} {D : DT} {l : Launch} {L : LT} {a0 : Nat} {a1 : Nat} {a2 : Int32} {a3 : Int32} {a4 : Int32} {a5 : Int32} {I : IT} {K : Nat → Prop} (hX : OK X D cX1_refusal "TeaHouse$House" 6) (hT : RT X l D (some (.object "TeaHouse$Refusal")) (P2 (Pa isRfs L (fun x I' => I' = I ∧ K x))) 4 0 0) (ha0 : isHou a0) (ha1 : isVer a1)  : ∀ (s0 : Int32), isZ s0 → isC s0 → f_X1_refusal_b182 a0 a1 a2 a3 a4 a5 I K s0 → J2 X D 6 0 0 I L 182 [.ref a0, .retAddr 0, .retAddr 0, .retAddr 0, .retAddr 0, .retAddr 0] [.int s0] := by
  have hR := hT.room
  intro s0 hzs0 hcs0 h
  rw [f_X1_refusal_b182] at h
  refine q_aload_n hX dX1_refusal_182 rfl ?_
  refine q_getR hX gf_X1_21 rfl dX1_refusal_183 (at_HOU ha0) (b := (a0 + 7)) (rt_HOU_1 ha0) ?_
  refine q_getI hX gf_X1_114 rfl dX1_refusal_186 (at_ORD (ord_hou1 ha0)) ?_
  refine q_bipush hX dX1_refusal_189 (v := (nI 10)) (by decide) ?_
  refine q_icmp_ge hX dX1_refusal_191 (tgt := 198) (by decide) (fun q1 => ?_) (fun q1 => ?_)
  · replace h := ite_t q1 h
    refine q_iconst hX dX1_refusal_198 (v := (nI 0)) (by decide) ?_
    exact q_dr (w_X1_refusal_b199 hX hT ha0 ha1   _ _ hzs0 hcs0 (Or.inl rfl) (isC_n (by decide)) h) ⟨Or.inr rfl, Or.inl rfl, Or.inl rfl, Or.inl rfl, Or.inl rfl, Or.inl rfl, trivial⟩
  · replace h := ite_f q1 h
    refine q_iconst hX dX1_refusal_194 (v := (nI 1)) (by decide) ?_
    refine q_goto hX dX1_refusal_195 (tgt := 199) (by decide) ?_
    exact q_dr (w_X1_refusal_b199 hX hT ha0 ha1   _ _ hzs0 hcs0 (Or.inr rfl) (isC_n (by decide)) h) ⟨Or.inr rfl, Or.inl rfl, Or.inl rfl, Or.inl rfl, Or.inl rfl, Or.inl rfl, trivial⟩
set_option maxRecDepth 100000 in
set_option maxHeartbeats 4000000 in
theorem w_X1_refusal_b181 {X : XT} {D : DT} {l : Launch} {L : LT} {a0 : Nat} {a1 : Nat} {a2 : Int32} {a3 : Int32} {a4 : Int32} {a5 : Int32} {I : IT} {K : Nat → Prop} (hX : OK X D cX1_refusal "TeaHouse$House" 6) (hT : RT X l D (some (.object "TeaHouse$Refusal")) (P2 (Pa isRfs L (fun x I' => I' = I ∧ K x))) 4 0 0) (ha0 : isHou a0) (ha1 : isVer a1)  : f_X1_refusal_b181 a0 a1 a2 a3 a4 a5 I K  → J2 X D 6 0 0 I L 181 [.ref a0, .retAddr 0, .retAddr 0, .retAddr 0, .retAddr 0, .retAddr 0] [] := by
  have hR := hT.room
  intro h
  rw [f_X1_refusal_b181] at h
  refine q_iconst hX dX1_refusal_181 (v := (nI 0)) (by decide) ?_
  exact q_dr (w_X1_refusal_b182 hX hT ha0 ha1   _ (Or.inl rfl) (isC_n (by decide)) h) ⟨Or.inl rfl, Or.inl rfl, Or.inl rfl, Or.inl rfl, Or.inl rfl, Or.inl rfl, trivial⟩
set_option maxRecDepth 100000 in
set_option maxHeartbeats 4000000 in
theorem w_X1_refusal_b257 {X : XT} {D : DT} {l : Launch} {L : LT} {a0 : Nat} {a1 : Nat} {a2 : Int32} {a3 : Int32} {a4 : Int32} {a5 : Int32} {I : IT} {K : Nat → Prop} (hX : OK X D cX1_refusal "TeaHouse$House" 6) (hT : RT X l D (some (.object "TeaHouse$Refusal")) (P2 (Pa isRfs L (fun x I' => I' = I ∧ K x))) 4 0 0) (ha0 : isHou a0) (ha1 : isVer a1)  : ∀ (s0 : Int32) (s1 : Int32), isZ s0 → isZ s1 → isC s1 → f_X1_refusal_b257 a0 a1 a2 a3 a4 a5 I K s0 s1 → J2 X D 6 0 0 I L 257 [.retAddr 0, .retAddr 0, .retAddr 0, .retAddr 0, .retAddr 0, .retAddr 0] [.int s1, .int s0] := by
  have hR := hT.room
  intro s0 s1 hzs0 hzs1 hcs1 h
  rw [f_X1_refusal_b257] at h
  refine q_S_ap hX hR (w_X1_unless hzs0 hzs1 h) lk_X1_96 dX1_refusal_257 rfl rfl (Nat.le_of_ble_eq_true rfl) (by omega) (by omega) (by omega) ?_
  intro x1 hrx1 h
  exact q_aretp hX hT dX1_refusal_260 hrx1 h
set_option maxRecDepth 100000 in
set_option maxHeartbeats 4000000 in
theorem w_X1_refusal_b281 {X : XT} {D : DT} {l : Launch} {L : LT} {a0 : Nat} {a1 : Nat} {a2 : Int32} {a3 : Int32} {a4 : Int32} {a5 : Int32} {I : IT} {K : Nat → Prop} (hX : OK X D cX1_refusal "TeaHouse$House" 6) (hT : RT X l D (some (.object "TeaHouse$Refusal")) (P2 (Pa isRfs L (fun x I' => I' = I ∧ K x))) 4 0 0) (ha0 : isHou a0) (ha1 : isVer a1)  : ∀ (s0 : Int32) (s1 : Int32), isZ s0 → isZ s1 → isC s1 → f_X1_refusal_b281 a0 a1 a2 a3 a4 a5 I K s0 s1 → J2 X D 6 0 0 I L 281 [.retAddr 0, .retAddr 0, .retAddr 0, .retAddr 0, .retAddr 0, .retAddr 0] [.int s1, .int s0] := by
  have hR := hT.room
  intro s0 s1 hzs0 hzs1 hcs1 h
  rw [f_X1_refusal_b281] at h
  refine q_S_ap hX hR (w_X1_unless hzs0 hzs1 h) lk_X1_96 dX1_refusal_281 rfl rfl (Nat.le_of_ble_eq_true rfl) (by omega) (by omega) (by omega) ?_
  intro x1 hrx1 h
  exact q_aretp hX hT dX1_refusal_284 hrx1 h
set_option maxRecDepth 100000 in
set_option maxHeartbeats 4000000 in
theorem w_X1_refusal_b297 {X : XT} {D : DT} {l : Launch} {L : LT} {a0 : Nat} {a1 : Nat} {a2 : Int32} {a3 : Int32} {a4 : Int32} {a5 : Int32} {I : IT} {K : Nat → Prop} (hX : OK X D cX1_refusal "TeaHouse$House" 6) (hT : RT X l D (some (.object "TeaHouse$Refusal")) (P2 (Pa isRfs L (fun x I' => I' = I ∧ K x))) 4 0 0) (ha0 : isHou a0) (ha1 : isVer a1)  : f_X1_refusal_b297 a0 a1 a2 a3 a4 a5 I K  → J2 X D 6 0 0 I L 297 [.retAddr 0, .retAddr 0, .int a2, .retAddr 0, .retAddr 0, .retAddr 0] [] := by
  have hR := hT.room
  intro h
  rw [f_X1_refusal_b297] at h
  refine q_iload_n hX dX1_refusal_297 rfl ?_
  refine q_iconst hX dX1_refusal_298 (v := (nI 1)) (by decide) ?_
  refine q_bipush hX dX1_refusal_299 (v := (nI 80)) (by decide) ?_
  refine q_SN_zp hX hR (w_X8_isWithin  h) lk_X1_89 dX1_refusal_301 rfl rfl (Nat.le_of_ble_eq_true rfl) (by omega) (by omega) (by omega) ?_
  intro x1 hrx1 h
  refine q_iconst hX dX1_refusal_304 (v := (nI 1)) (by decide) ?_
  refine q_S_ap hX hR (w_X1_unless hrx1 (Or.inr rfl) h) lk_X1_96 dX1_refusal_305 rfl rfl (Nat.le_of_ble_eq_true rfl) (by omega) (by omega) (by omega) ?_
  intro x2 hrx2 h
  exact q_aretp hX hT dX1_refusal_308 hrx2 h
set_option maxRecDepth 100000 in
set_option maxHeartbeats 4000000 in
theorem w_X1_refusal_b327 {X : XT} {D : DT} {l : Launch} {L : LT} {a0 : Nat} {a1 : Nat} {a2 : Int32} {a3 : Int32} {a4 : Int32} {a5 : Int32} {I : IT} {K : Nat → Prop} (hX : OK X D cX1_refusal "TeaHouse$House" 6) (hT : RT X l D (some (.object "TeaHouse$Refusal")) (P2 (Pa isRfs L (fun x I' => I' = I ∧ K x))) 4 0 0) (ha0 : isHou a0) (ha1 : isVer a1)  : ∀ (s1 : Int32), isZ s1 → isC s1 → f_X1_refusal_b327 a0 a1 a2 a3 a4 a5 I K s1 → J2 X D 6 0 0 I L 327 [.retAddr 0, .retAddr 0, .retAddr 0, .retAddr 0, .retAddr 0, .retAddr 0] [.int s1, .int (nI 1)] := by
  have hR := hT.room
  intro s1 hzs1 hcs1 h
  rw [f_X1_refusal_b327] at h
  refine q_S_ap hX hR (w_X1_unless (Or.inr rfl) hzs1 h) lk_X1_96 dX1_refusal_327 rfl rfl (Nat.le_of_ble_eq_true rfl) (by omega) (by omega) (by omega) ?_
  intro x1 hrx1 h
  exact q_aretp hX hT dX1_refusal_330 hrx1 h
set_option maxRecDepth 100000 in
set_option maxHeartbeats 4000000 in
theorem w_X1_refusal {l : Launch} {D : DT} {L : LT} {a0 : Nat} {a1 : Nat} {a2 : Int32} {a3 : Int32} {a4 : Int32} {a5 : Int32} {I : IT} {K : Nat → Prop} (ha0 : isHou a0) (ha1 : isVer a1) (h : f_X1_refusal a0 a1 a2 a3 a4 a5 I K) : Con2 l D m_X1_refusal 4 [.ref a0, .ref a1, .int a2, .int a3, .int a4, .int a5] 0 0 I L (Pa isRfs L (fun x I' => I' = I ∧ K x)) := by
  refine Con2.of (by decide +kernel) (by simp [Value.category]) (Nat.le_of_ble_eq_true rfl) (fun X hX hT => ?_)
  have hX : OK X D cX1_refusal "TeaHouse$House" 6 := hX
  have hT : RT X l D (some (.object "TeaHouse$Refusal")) (P2 (Pa isRfs L (fun x I' => I' = I ∧ K x))) 4 0 0 := hT
  have hR := hT.room
  change J2 X D 6 0 0 I L 0 [.ref a0, .ref a1, .int a2, .int a3, .int a4, .int a5] []
  rw [f_X1_refusal] at h
  refine q_gets hX (q := ("TeaHouse$1", "$SwitchMap$TeaHouse$Verb", "[I", .ref 1000031)) (by decide +kernel) gs_X1_77 dX1_refusal_0 ?_
  refine q_aload_n hX dX1_refusal_3 rfl ?_
  refine q_ord hX hR lk_ord dX1_refusal_4 ha1 (by omega) (by omega) (by omega) ?_
  obtain ⟨z1, h⟩ := h
  refine q_swm hX dX1_refusal_7 z1 ?_
  refine q_cas (k := (nI 1)) (fun q28 => ?_) (fun q28 => ?_)
  · replace h := ite_t q28 h
    refine q_tableInE hX dX1_refusal_8 q28 (by decide +kernel) (by decide +kernel) (off := 64) (by decide +kernel) (tgt := 72) (by decide) ?_
    refine q_iload_n hX dX1_refusal_72 rfl ?_
    refine q_iconst hX dX1_refusal_73 (v := (nI 2)) (by decide) ?_
    refine q_bipush hX dX1_refusal_74 (v := (nI 16)) (by decide) ?_
    refine q_SN_zp hX hR (w_X8_isWithin  h) lk_X1_89 dX1_refusal_76 rfl rfl (Nat.le_of_ble_eq_true rfl) (by omega) (by omega) (by omega) ?_
    intro x2 hrx2 h
    refine q_aload_n hX dX1_refusal_79 rfl ?_
    refine q_getR hX gf_X1_12 rfl dX1_refusal_80 (at_HOU ha0) (b := (a0 + 1)) (rt_HOU_0 ha0) ?_
    refine q_getI hX gf_X1_93 rfl dX1_refusal_83 (at_KET (ket_hou0 ha0)) ?_
    refine q_iconst hX dX1_refusal_86 (v := (nI 4)) (by decide) ?_
    refine q_icmp_ge hX dX1_refusal_87 (tgt := 94) (by decide) (fun q3 => ?_) (fun q3 => ?_)
    · replace h := ite_t q3 h
      refine q_iconst hX dX1_refusal_94 (v := (nI 0)) (by decide) ?_
      exact q_dr (w_X1_refusal_b95 hX hT ha0 ha1   _ _ hrx2 (Or.inl rfl) (isC_n (by decide)) h) ⟨Or.inr rfl, Or.inr rfl, Or.inr rfl, Or.inr rfl, Or.inr rfl, Or.inr rfl, trivial⟩
    · replace h := ite_f q3 h
      refine q_iconst hX dX1_refusal_90 (v := (nI 1)) (by decide) ?_
      refine q_goto hX dX1_refusal_91 (tgt := 95) (by decide) ?_
      exact q_dr (w_X1_refusal_b95 hX hT ha0 ha1   _ _ hrx2 (Or.inr rfl) (isC_n (by decide)) h) ⟨Or.inr rfl, Or.inr rfl, Or.inr rfl, Or.inr rfl, Or.inr rfl, Or.inr rfl, trivial⟩
  replace h := ite_f q28 h
  refine q_cas (k := (nI 2)) (fun q29 => ?_) (fun q29 => ?_)
  · replace h := ite_t q29 h
    refine q_tableInE hX dX1_refusal_8 q29 (by decide +kernel) (by decide +kernel) (off := 91) (by decide +kernel) (tgt := 99) (by decide) ?_
    refine q_aload_n hX dX1_refusal_99 rfl ?_
    refine q_iload_n hX dX1_refusal_100 rfl ?_
    refine q_iload_n hX dX1_refusal_101 rfl ?_
    refine q_V_ap hX hR (w_X1_refusalToFill ha0 h) lk_X1_100 (rc2_HOU ha0) dX1_refusal_102 rfl rfl (Nat.le_of_ble_eq_true rfl) (by omega) (by omega) (by omega) ?_
    intro x4 hrx4 h
    exact q_aretp hX hT dX1_refusal_105 hrx4 h
  replace h := ite_f q29 h
  refine q_cas (k := (nI 3)) (fun q30 => ?_) (fun q30 => ?_)
  · replace h := ite_t q30 h
    refine q_tableInE hX dX1_refusal_8 q30 (by decide +kernel) (by decide +kernel) (off := 98) (by decide +kernel) (tgt := 106) (by decide) ?_
    refine q_aload_n hX dX1_refusal_106 rfl ?_
    refine q_getR hX gf_X1_12 rfl dX1_refusal_107 (at_HOU ha0) (b := (a0 + 1)) (rt_HOU_0 ha0) ?_
    refine q_iload_n hX dX1_refusal_110 rfl ?_
    refine q_V_zp hX hR (w_X3_has (ket_hou0 ha0) h) lk_X1_104 (rc2_KET (ket_hou0 ha0)) dX1_refusal_111 rfl rfl (Nat.le_of_ble_eq_true rfl) (by omega) (by omega) (by omega) ?_
    intro x5 hrx5 h
    refine q_if_eq hX dX1_refusal_114 (tgt := 130) (by decide) (fun q6 => ?_) (fun q6 => ?_)
    · replace h := ite_t q6 h
      refine q_gets hX (q := ("TeaHouse$Refusal", "NO_SUCH_KETTLE", "LTeaHouse$Refusal;", .ref 1000021)) (by decide +kernel) gs_X1_108 dX1_refusal_130 ?_
      exact q_aretp hX hT dX1_refusal_133 ⟨by decide, by decide⟩ h
    · replace h := ite_f q6 h
      refine q_iload_n hX dX1_refusal_117 rfl ?_
      refine q_iconst hX dX1_refusal_118 (v := (nI 0)) (by decide) ?_
      refine q_iconst hX dX1_refusal_119 (v := (nI 5)) (by decide) ?_
      refine q_SN_zp hX hR (w_X8_isWithin  h) lk_X1_89 dX1_refusal_120 rfl rfl (Nat.le_of_ble_eq_true rfl) (by omega) (by omega) (by omega) ?_
      intro x7 hrx7 h
      refine q_iconst hX dX1_refusal_123 (v := (nI 1)) (by decide) ?_
      refine q_S_ap hX hR (w_X1_unless hrx7 (Or.inr rfl) h) lk_X1_96 dX1_refusal_124 rfl rfl (Nat.le_of_ble_eq_true rfl) (by omega) (by omega) (by omega) ?_
      intro x8 hrx8 h
      refine q_goto hX dX1_refusal_127 (tgt := 133) (by decide) ?_
      exact q_aretp hX hT dX1_refusal_133 hrx8 h
  replace h := ite_f q30 h
  refine q_cas (k := (nI 4)) (fun q31 => ?_) (fun q31 => ?_)
  · replace h := ite_t q31 h
    refine q_tableInE hX dX1_refusal_8 q31 (by decide +kernel) (by decide +kernel) (off := 126) (by decide +kernel) (tgt := 134) (by decide) ?_
    refine q_iload_n hX dX1_refusal_134 rfl ?_
    refine q_iconst hX dX1_refusal_135 (v := (nI 0)) (by decide) ?_
    refine q_bipush hX dX1_refusal_136 (v := (nI 9)) (by decide) ?_
    refine q_SN_zp hX hR (w_X8_isWithin  h) lk_X1_89 dX1_refusal_138 rfl rfl (Nat.le_of_ble_eq_true rfl) (by omega) (by omega) (by omega) ?_
    intro x9 hrx9 h
    refine q_if_eq hX dX1_refusal_141 (tgt := 181) (by decide) (fun q10 => ?_) (fun q10 => ?_)
    · replace h := ite_t q10 h
      exact q_dr (w_X1_refusal_b181 hX hT ha0 ha1     h) ⟨Or.inl rfl, Or.inr rfl, Or.inr rfl, Or.inr rfl, Or.inr rfl, Or.inr rfl, trivial⟩
    · replace h := ite_f q10 h
      refine q_iload_n hX dX1_refusal_144 rfl ?_
      refine q_iconst hX dX1_refusal_145 (v := (nI 1)) (by decide) ?_
      refine q_bipush hX dX1_refusal_146 (v := (nI 6)) (by decide) ?_
      refine q_SN_zp hX hR (w_X8_isWithin  h) lk_X1_89 dX1_refusal_148 rfl rfl (Nat.le_of_ble_eq_true rfl) (by omega) (by omega) (by omega) ?_
      intro x11 hrx11 h
      refine q_if_eq hX dX1_refusal_151 (tgt := 181) (by decide) (fun q12 => ?_) (fun q12 => ?_)
      · replace h := ite_t q12 h
        exact q_dr (w_X1_refusal_b181 hX hT ha0 ha1     h) ⟨Or.inl rfl, Or.inr rfl, Or.inr rfl, Or.inr rfl, Or.inr rfl, Or.inr rfl, trivial⟩
      · replace h := ite_f q12 h
        refine q_iload hX dX1_refusal_154 rfl ?_
        refine q_bipush hX dX1_refusal_156 (v := (nI 60)) (by decide) ?_
        refine q_bipush hX dX1_refusal_158 (v := (nI 100)) (by decide) ?_
        refine q_SN_zp hX hR (w_X8_isWithin  h) lk_X1_89 dX1_refusal_160 rfl rfl (Nat.le_of_ble_eq_true rfl) (by omega) (by omega) (by omega) ?_
        intro x13 hrx13 h
        refine q_if_eq hX dX1_refusal_163 (tgt := 181) (by decide) (fun q14 => ?_) (fun q14 => ?_)
        · replace h := ite_t q14 h
          exact q_dr (w_X1_refusal_b181 hX hT ha0 ha1     h) ⟨Or.inl rfl, Or.inr rfl, Or.inr rfl, Or.inr rfl, Or.inr rfl, Or.inr rfl, trivial⟩
        · replace h := ite_f q14 h
          refine q_iload hX dX1_refusal_166 rfl ?_
          refine q_iconst hX dX1_refusal_168 (v := (nI 1)) (by decide) ?_
          refine q_bipush hX dX1_refusal_169 (v := (nI 9)) (by decide) ?_
          refine q_SN_zp hX hR (w_X8_isWithin  h) lk_X1_89 dX1_refusal_171 rfl rfl (Nat.le_of_ble_eq_true rfl) (by omega) (by omega) (by omega) ?_
          intro x15 hrx15 h
          refine q_if_eq hX dX1_refusal_174 (tgt := 181) (by decide) (fun q16 => ?_) (fun q16 => ?_)
          · replace h := ite_t q16 h
            exact q_dr (w_X1_refusal_b181 hX hT ha0 ha1     h) ⟨Or.inl rfl, Or.inr rfl, Or.inr rfl, Or.inr rfl, Or.inr rfl, Or.inr rfl, trivial⟩
          · replace h := ite_f q16 h
            refine q_iconst hX dX1_refusal_177 (v := (nI 1)) (by decide) ?_
            refine q_goto hX dX1_refusal_178 (tgt := 182) (by decide) ?_
            exact q_dr (w_X1_refusal_b182 hX hT ha0 ha1   _ (Or.inr rfl) (isC_n (by decide)) h) ⟨Or.inl rfl, Or.inr rfl, Or.inr rfl, Or.inr rfl, Or.inr rfl, Or.inr rfl, trivial⟩
  replace h := ite_f q31 h
  refine q_cas (k := (nI 5)) (fun q32 => ?_) (fun q32 => ?_)
  · replace h := ite_t q32 h
    refine q_tableInE hX dX1_refusal_8 q32 (by decide +kernel) (by decide +kernel) (off := 195) (by decide +kernel) (tgt := 203) (by decide) ?_
    refine q_aload_n hX dX1_refusal_203 rfl ?_
    refine q_getR hX gf_X1_21 rfl dX1_refusal_204 (at_HOU ha0) (b := (a0 + 7)) (rt_HOU_1 ha0) ?_
    refine q_iload_n hX dX1_refusal_207 rfl ?_
    refine q_V_ip hX hR (w_X5_find (ord_hou1 ha0) h) lk_X1_115 (rc2_ORD (ord_hou1 ha0)) dX1_refusal_208 rfl rfl (Nat.le_of_ble_eq_true rfl) (by omega) (by omega) (by omega) ?_
    intro x17 h
    refine q_iconst hX dX1_refusal_211 (v := (-1)) (by decide) ?_
    refine q_icmp_ne hX dX1_refusal_212 (tgt := 221) (by decide) (fun q18 => ?_) (fun q18 => ?_)
    · replace h := ite_f q18 h
      refine q_gets hX (q := ("TeaHouse$Refusal", "NOTHING", "LTeaHouse$Refusal;", .ref 1000020)) (by decide +kernel) gs_X1_122 dX1_refusal_221 ?_
      exact q_aretp hX hT dX1_refusal_224 ⟨by decide, by decide⟩ h
    · replace h := ite_t q18 h
      refine q_gets hX (q := ("TeaHouse$Refusal", "NO_SUCH_ORDER", "LTeaHouse$Refusal;", .ref 1000024)) (by decide +kernel) gs_X1_119 dX1_refusal_215 ?_
      refine q_goto hX dX1_refusal_218 (tgt := 224) (by decide) ?_
      exact q_aretp hX hT dX1_refusal_224 ⟨by decide, by decide⟩ h
  replace h := ite_f q32 h
  refine q_cas (k := (nI 6)) (fun q33 => ?_) (fun q33 => ?_)
  · replace h := ite_t q33 h
    refine q_tableInE hX dX1_refusal_8 q33 (by decide +kernel) (by decide +kernel) (off := 217) (by decide +kernel) (tgt := 225) (by decide) ?_
    refine q_iconst hX dX1_refusal_225 (v := (nI 1)) (by decide) ?_
    refine q_aload_n hX dX1_refusal_226 rfl ?_
    refine q_V_zp hX hR (w_X1_firstCanBeServed ha0 h) lk_X1_125 (rc2_HOU ha0) dX1_refusal_227 rfl rfl (Nat.le_of_ble_eq_true rfl) (by omega) (by omega) (by omega) ?_
    intro x19 hrx19 h
    refine q_S_ap hX hR (w_X1_unless (Or.inr rfl) hrx19 h) lk_X1_96 dX1_refusal_230 rfl rfl (Nat.le_of_ble_eq_true rfl) (by omega) (by omega) (by omega) ?_
    intro x20 hrx20 h
    exact q_aretp hX hT dX1_refusal_233 hrx20 h
  replace h := ite_f q33 h
  refine q_cas (k := (nI 7)) (fun q34 => ?_) (fun q34 => ?_)
  · replace h := ite_t q34 h
    refine q_tableInE hX dX1_refusal_8 q34 (by decide +kernel) (by decide +kernel) (off := 226) (by decide +kernel) (tgt := 234) (by decide) ?_
    refine q_iload_n hX dX1_refusal_234 rfl ?_
    refine q_iconst hX dX1_refusal_235 (v := (nI 1)) (by decide) ?_
    refine q_bipush hX dX1_refusal_236 (v := (nI 20)) (by decide) ?_
    refine q_SN_zp hX hR (w_X8_isWithin  h) lk_X1_89 dX1_refusal_238 rfl rfl (Nat.le_of_ble_eq_true rfl) (by omega) (by omega) (by omega) ?_
    intro x21 hrx21 h
    refine q_iload_n hX dX1_refusal_241 rfl ?_
    refine q_bipush hX dX1_refusal_242 (v := (nI 20)) (by decide) ?_
    refine q_aload_n hX dX1_refusal_244 rfl ?_
    refine q_getI hX gf_X1_32 rfl dX1_refusal_245 (at_HOU ha0) ?_
    refine q_isub hX dX1_refusal_248 ?_
    refine q_icmp_gt hX dX1_refusal_249 (tgt := 256) (by decide) (fun q22 => ?_) (fun q22 => ?_)
    · replace h := ite_t q22 h
      refine q_iconst hX dX1_refusal_256 (v := (nI 0)) (by decide) ?_
      exact q_dr (w_X1_refusal_b257 hX hT ha0 ha1   _ _ hrx21 (Or.inl rfl) (isC_n (by decide)) h) ⟨Or.inr rfl, Or.inr rfl, Or.inr rfl, Or.inr rfl, Or.inr rfl, Or.inr rfl, trivial⟩
    · replace h := ite_f q22 h
      refine q_iconst hX dX1_refusal_252 (v := (nI 1)) (by decide) ?_
      refine q_goto hX dX1_refusal_253 (tgt := 257) (by decide) ?_
      exact q_dr (w_X1_refusal_b257 hX hT ha0 ha1   _ _ hrx21 (Or.inr rfl) (isC_n (by decide)) h) ⟨Or.inr rfl, Or.inr rfl, Or.inr rfl, Or.inr rfl, Or.inr rfl, Or.inr rfl, trivial⟩
  replace h := ite_f q34 h
  refine q_cas (k := (nI 8)) (fun q35 => ?_) (fun q35 => ?_)
  · replace h := ite_t q35 h
    refine q_tableInE hX dX1_refusal_8 q35 (by decide +kernel) (by decide +kernel) (off := 253) (by decide +kernel) (tgt := 261) (by decide) ?_
    refine q_iload_n hX dX1_refusal_261 rfl ?_
    refine q_iconst hX dX1_refusal_262 (v := (nI 1)) (by decide) ?_
    refine q_bipush hX dX1_refusal_263 (v := (nI 80)) (by decide) ?_
    refine q_SN_zp hX hR (w_X8_isWithin  h) lk_X1_89 dX1_refusal_265 rfl rfl (Nat.le_of_ble_eq_true rfl) (by omega) (by omega) (by omega) ?_
    intro x23 hrx23 h
    refine q_iload_n hX dX1_refusal_268 rfl ?_
    refine q_aload_n hX dX1_refusal_269 rfl ?_
    refine q_getI hX gf_X1_36 rfl dX1_refusal_270 (at_HOU ha0) ?_
    refine q_icmp_gt hX dX1_refusal_273 (tgt := 280) (by decide) (fun q24 => ?_) (fun q24 => ?_)
    · replace h := ite_t q24 h
      refine q_iconst hX dX1_refusal_280 (v := (nI 0)) (by decide) ?_
      exact q_dr (w_X1_refusal_b281 hX hT ha0 ha1   _ _ hrx23 (Or.inl rfl) (isC_n (by decide)) h) ⟨Or.inr rfl, Or.inr rfl, Or.inr rfl, Or.inr rfl, Or.inr rfl, Or.inr rfl, trivial⟩
    · replace h := ite_f q24 h
      refine q_iconst hX dX1_refusal_276 (v := (nI 1)) (by decide) ?_
      refine q_goto hX dX1_refusal_277 (tgt := 281) (by decide) ?_
      exact q_dr (w_X1_refusal_b281 hX hT ha0 ha1   _ _ hrx23 (Or.inr rfl) (isC_n (by decide)) h) ⟨Or.inr rfl, Or.inr rfl, Or.inr rfl, Or.inr rfl, Or.inr rfl, Or.inr rfl, trivial⟩
  replace h := ite_f q35 h
  refine q_cas (k := (nI 9)) (fun q36 => ?_) (fun q36 => ?_)
  · replace h := ite_t q36 h
    refine q_tableInE hX dX1_refusal_8 q36 (by decide +kernel) (by decide +kernel) (off := 277) (by decide +kernel) (tgt := 285) (by decide) ?_
    refine q_iload_n hX dX1_refusal_285 rfl ?_
    refine q_iconst hX dX1_refusal_286 (v := (nI 1)) (by decide) ?_
    refine q_bipush hX dX1_refusal_287 (v := (nI 120)) (by decide) ?_
    refine q_SN_zp hX hR (w_X8_isWithin  h) lk_X1_89 dX1_refusal_289 rfl rfl (Nat.le_of_ble_eq_true rfl) (by omega) (by omega) (by omega) ?_
    intro x25 hrx25 h
    refine q_iconst hX dX1_refusal_292 (v := (nI 1)) (by decide) ?_
    refine q_S_ap hX hR (w_X1_unless hrx25 (Or.inr rfl) h) lk_X1_96 dX1_refusal_293 rfl rfl (Nat.le_of_ble_eq_true rfl) (by omega) (by omega) (by omega) ?_
    intro x26 hrx26 h
    exact q_aretp hX hT dX1_refusal_296 hrx26 h
  replace h := ite_f q36 h
  refine q_cas (k := (nI 10)) (fun q37 => ?_) (fun q37 => ?_)
  · replace h := ite_t q37 h
    refine q_tableInE hX dX1_refusal_8 q37 (by decide +kernel) (by decide +kernel) (off := 289) (by decide +kernel) (tgt := 297) (by decide) ?_
    exact q_dr (w_X1_refusal_b297 hX hT ha0 ha1     h) ⟨Or.inr rfl, Or.inr rfl, Or.inl rfl, Or.inr rfl, Or.inr rfl, Or.inr rfl, trivial⟩
  replace h := ite_f q37 h
  refine q_cas (k := (nI 11)) (fun q38 => ?_) (fun q38 => ?_)
  · replace h := ite_t q38 h
    refine q_tableInE hX dX1_refusal_8 q38 (by decide +kernel) (by decide +kernel) (off := 289) (by decide +kernel) (tgt := 297) (by decide) ?_
    exact q_dr (w_X1_refusal_b297 hX hT ha0 ha1     h) ⟨Or.inr rfl, Or.inr rfl, Or.inl rfl, Or.inr rfl, Or.inr rfl, Or.inr rfl, trivial⟩
  replace h := ite_f q38 h
  refine q_cas (k := (nI 12)) (fun q39 => ?_) (fun q39 => ?_)
  · replace h := ite_t q39 h
    refine q_tableInE hX dX1_refusal_8 q39 (by decide +kernel) (by decide +kernel) (off := 301) (by decide +kernel) (tgt := 309) (by decide) ?_
    refine q_iconst hX dX1_refusal_309 (v := (nI 1)) (by decide) ?_
    refine q_aload_n hX dX1_refusal_310 rfl ?_
    refine q_getR hX gf_X1_28 rfl dX1_refusal_311 (at_HOU ha0) (b := (a0 + 13)) (rt_HOU_2 ha0) ?_
    refine q_getI hX gf_X1_129 rfl dX1_refusal_314 (at_LED (led_hou2 ha0)) ?_
    refine q_bipush hX dX1_refusal_317 (v := (nI 14)) (by decide) ?_
    refine q_icmp_ge hX dX1_refusal_319 (tgt := 326) (by decide) (fun q27 => ?_) (fun q27 => ?_)
    · replace h := ite_t q27 h
      refine q_iconst hX dX1_refusal_326 (v := (nI 0)) (by decide) ?_
      exact q_dr (w_X1_refusal_b327 hX hT ha0 ha1   _ (Or.inl rfl) (isC_n (by decide)) h) ⟨Or.inr rfl, Or.inr rfl, Or.inr rfl, Or.inr rfl, Or.inr rfl, Or.inr rfl, trivial⟩
    · replace h := ite_f q27 h
      refine q_iconst hX dX1_refusal_322 (v := (nI 1)) (by decide) ?_
      refine q_goto hX dX1_refusal_323 (tgt := 327) (by decide) ?_
      exact q_dr (w_X1_refusal_b327 hX hT ha0 ha1   _ (Or.inr rfl) (isC_n (by decide)) h) ⟨Or.inr rfl, Or.inr rfl, Or.inr rfl, Or.inr rfl, Or.inr rfl, Or.inr rfl, trivial⟩
  replace h := ite_f q39 h
  refine q_tableOut hX dX1_refusal_8 (by have w0 := swn q28 (by decide); have w1 := swn q29 (by decide); have w2 := swn q30 (by decide); have w3 := swn q31 (by decide); have w4 := swn q32 (by decide); have w5 := swn q33 (by decide); have w6 := swn q34 (by decide); have w7 := swn q35 (by decide); have w8 := swn q36 (by decide); have w9 := swn q37 (by decide); have w10 := swn q38 (by decide); have w11 := swn q39 (by decide); omega) (tgt := 331) (by decide) ?_
  refine q_gets hX (q := ("TeaHouse$Refusal", "NOTHING", "LTeaHouse$Refusal;", .ref 1000020)) (by decide +kernel) gs_X1_122 dX1_refusal_331 ?_
  exact q_aretp hX hT dX1_refusal_334 ⟨by decide, by decide⟩ h
set_option maxRecDepth 100000 in
set_option maxHeartbeats 4000000 in
theorem w_X1_exchangeAttendant_b12 {X : XT} {D : DT} {l : Launch} {L : LT} {a0 : Nat} {a1 : Int32} {K : Int32 → IT → Prop} (hX : OK X D cX1_exchangeAttendant "TeaHouse$House" 3) (hT : RT X l D (some .int) (P2 (Pi L K)) 1 0 0) (ha0 : isHou a0) (ha1 : isZ a1)  : ∀ (s0 : Int32) (I : IT), isZ s0 → isC s0 → f_X1_exchangeAttendant_b12 a0 a1 K s0 I → J2 X D 3 0 0 I L 12 [.ref a0, .int a1, .retAddr 0] [.int s0] := by
  have hR := hT.room
  intro s0 I hzs0 hcs0 h
  rw [f_X1_exchangeAttendant_b12] at h
  refine q_istore_n hX dX1_exchangeAttendant_12 (by decide) (ls' := [_, _, _]) rfl ?_
  refine q_aload_n hX dX1_exchangeAttendant_13 rfl ?_
  refine q_iload_n hX dX1_exchangeAttendant_14 rfl ?_
  replace h := wr_e h
  refine q_putI hX pf_X1_54 rfl dX1_exchangeAttendant_15 (at_HOU ha0) (nar_z ha1) (fit_z ha1) ?_
  generalize up2 _ _ _ _ = I1 at h ⊢
  refine q_iload_n hX dX1_exchangeAttendant_18 rfl ?_
  exact q_iret hX hT dX1_exchangeAttendant_19 h
set_option maxRecDepth 100000 in
set_option maxHeartbeats 4000000 in
theorem w_X1_exchangeAttendant {l : Launch} {D : DT} {L : LT} {a0 : Nat} {a1 : Int32} {I : IT} {K : Int32 → IT → Prop} (ha0 : isHou a0) (ha1 : isZ a1) (h : f_X1_exchangeAttendant a0 a1 I K) : Con2 l D m_X1_exchangeAttendant 1 [.ref a0, .int a1] 0 0 I L (Pi L K) := by
  refine Con2.of (by decide +kernel) (by simp [Value.category]) (Nat.le_of_ble_eq_true rfl) (fun X hX hT => ?_)
  have hX : OK X D cX1_exchangeAttendant "TeaHouse$House" 3 := hX
  have hT : RT X l D (some .int) (P2 (Pi L K)) 1 0 0 := hT
  have hR := hT.room
  change J2 X D 3 0 0 I L 0 [.ref a0, .int a1, .retAddr 0] []
  rw [f_X1_exchangeAttendant] at h
  refine q_aload_n hX dX1_exchangeAttendant_0 rfl ?_
  refine q_getI hX gf_X1_54 rfl dX1_exchangeAttendant_1 (at_HOU ha0) ?_
  refine q_if_eq hX dX1_exchangeAttendant_4 (tgt := 11) (by decide) (fun q1 => ?_) (fun q1 => ?_)
  · replace h := ite_t q1 h
    refine q_iconst hX dX1_exchangeAttendant_11 (v := (nI 0)) (by decide) ?_
    exact q_dr (w_X1_exchangeAttendant_b12 hX hT ha0 ha1   _ _ (Or.inl rfl) (isC_n (by decide)) h) ⟨Or.inl rfl, Or.inl rfl, Or.inl rfl, trivial⟩
  · replace h := ite_f q1 h
    refine q_iconst hX dX1_exchangeAttendant_7 (v := (nI 1)) (by decide) ?_
    refine q_goto hX dX1_exchangeAttendant_8 (tgt := 12) (by decide) ?_
    exact q_dr (w_X1_exchangeAttendant_b12 hX hT ha0 ha1   _ _ (Or.inr rfl) (isC_n (by decide)) h) ⟨Or.inl rfl, Or.inl rfl, Or.inl rfl, trivial⟩
set_option maxRecDepth 100000 in
set_option maxHeartbeats 4000000 in
theorem w_X1_exchangeCupPrice {l : Launch} {D : DT} {L : LT} {a0 : Nat} {a1 : Int32} {I : IT} {K : Int32 → IT → Prop} (ha0 : isHou a0) (h : f_X1_exchangeCupPrice a0 a1 I K) : Con2 l D m_X1_exchangeCupPrice 1 [.ref a0, .int a1] 0 0 I L (Pi L K) := by
  refine Con2.of (by decide +kernel) (by simp [Value.category]) (Nat.le_of_ble_eq_true rfl) (fun X hX hT => ?_)
  have hX : OK X D cX1_exchangeCupPrice "TeaHouse$House" 3 := hX
  have hT : RT X l D (some .int) (P2 (Pi L K)) 1 0 0 := hT
  have hR := hT.room
  change J2 X D 3 0 0 I L 0 [.ref a0, .int a1, .retAddr 0] []
  rw [f_X1_exchangeCupPrice] at h
  refine q_aload_n hX dX1_exchangeCupPrice_0 rfl ?_
  refine q_getI hX gf_X1_48 rfl dX1_exchangeCupPrice_1 (at_HOU ha0) ?_
  replace h := bnd_e h
  refine q_istore_n hX dX1_exchangeCupPrice_4 (by decide) (ls' := [_, _, _]) rfl ?_
  refine q_aload_n hX dX1_exchangeCupPrice_5 rfl ?_
  refine q_iload_n hX dX1_exchangeCupPrice_6 rfl ?_
  replace h := wr_e h
  refine q_putI hX pf_X1_48 rfl dX1_exchangeCupPrice_7 (at_HOU ha0) rfl rfl ?_
  generalize up2 _ _ _ _ = I2 at h ⊢
  refine q_iload_n hX dX1_exchangeCupPrice_10 rfl ?_
  exact q_iret hX hT dX1_exchangeCupPrice_11 h
set_option maxRecDepth 100000 in
set_option maxHeartbeats 4000000 in
theorem w_X1_exchangeSteamPrice {l : Launch} {D : DT} {L : LT} {a0 : Nat} {a1 : Int32} {I : IT} {K : Int32 → IT → Prop} (ha0 : isHou a0) (h : f_X1_exchangeSteamPrice a0 a1 I K) : Con2 l D m_X1_exchangeSteamPrice 1 [.ref a0, .int a1] 0 0 I L (Pi L K) := by
  refine Con2.of (by decide +kernel) (by simp [Value.category]) (Nat.le_of_ble_eq_true rfl) (fun X hX hT => ?_)
  have hX : OK X D cX1_exchangeSteamPrice "TeaHouse$House" 3 := hX
  have hT : RT X l D (some .int) (P2 (Pi L K)) 1 0 0 := hT
  have hR := hT.room
  change J2 X D 3 0 0 I L 0 [.ref a0, .int a1, .retAddr 0] []
  rw [f_X1_exchangeSteamPrice] at h
  refine q_aload_n hX dX1_exchangeSteamPrice_0 rfl ?_
  refine q_getI hX gf_X1_51 rfl dX1_exchangeSteamPrice_1 (at_HOU ha0) ?_
  replace h := bnd_e h
  refine q_istore_n hX dX1_exchangeSteamPrice_4 (by decide) (ls' := [_, _, _]) rfl ?_
  refine q_aload_n hX dX1_exchangeSteamPrice_5 rfl ?_
  refine q_iload_n hX dX1_exchangeSteamPrice_6 rfl ?_
  replace h := wr_e h
  refine q_putI hX pf_X1_51 rfl dX1_exchangeSteamPrice_7 (at_HOU ha0) rfl rfl ?_
  generalize up2 _ _ _ _ = I2 at h ⊢
  refine q_iload_n hX dX1_exchangeSteamPrice_10 rfl ?_
  exact q_iret hX hT dX1_exchangeSteamPrice_11 h
set_option maxRecDepth 100000 in
set_option maxHeartbeats 4000000 in
theorem w_X3_rise {l : Launch} {D : DT} {L : LT} {a0 : Nat} {a1 : Int32} {I : IT} {K : Int32 → Prop} (ha0 : isKet a0) (h : f_X3_rise a0 a1 I K) : Con2 l D m_X3_rise 1 [.ref a0, .int a1] 0 0 I L (Pi L (fun x I' => I' = I ∧ K x)) := by
  refine Con2.of (by decide +kernel) (by simp [Value.category]) (Nat.le_of_ble_eq_true rfl) (fun X hX hT => ?_)
  have hX : OK X D cX3_rise "TeaHouse$Kettles" 2 := hX
  have hT : RT X l D (some .int) (P2 (Pi L (fun x I' => I' = I ∧ K x))) 1 0 0 := hT
  have hR := hT.room
  change J2 X D 2 0 0 I L 0 [.ref a0, .int a1] []
  rw [f_X3_rise] at h
  refine q_iconst hX dX3_rise_0 (v := (nI 3)) (by decide) ?_
  refine q_aload_n hX dX3_rise_1 rfl ?_
  refine q_getR hX gf_X3_21 rfl dX3_rise_2 (at_KET ha0) (b := (a0 + 4)) (rt_KET_3 ha0) ?_
  refine q_iload_n hX dX3_rise_5 rfl ?_
  obtain ⟨z1, h⟩ := h
  refine q_iald hX dX3_rise_6 (aa_KET_3 ha0) (inr_e z1) (inr_lt z1) (by decide) ?_
  refine q_imul hX dX3_rise_7 ?_
  refine q_iconst hX dX3_rise_8 (v := (nI 1)) (by decide) ?_
  refine q_isub hX dX3_rise_9 ?_
  exact q_iretp hX hT dX3_rise_10 h
set_option maxRecDepth 100000 in
set_option maxHeartbeats 4000000 in
theorem w_X3_heated {l : Launch} {D : DT} {L : LT} {a0 : Nat} {a1 : Int32} {I : IT} {K : Int32 → Prop} (ha0 : isKet a0) (h : f_X3_heated a0 a1 I K) : Con2 l D m_X3_heated 2 [.ref a0, .int a1] 0 0 I L (Pi L (fun x I' => I' = I ∧ K x)) := by
  refine Con2.of (by decide +kernel) (by simp [Value.category]) (Nat.le_of_ble_eq_true rfl) (fun X hX hT => ?_)
  have hX : OK X D cX3_heated "TeaHouse$Kettles" 2 := hX
  have hT : RT X l D (some .int) (P2 (Pi L (fun x I' => I' = I ∧ K x))) 2 0 0 := hT
  have hR := hT.room
  change J2 X D 2 0 0 I L 0 [.ref a0, .int a1] []
  rw [f_X3_heated] at h
  refine q_bipush hX dX3_heated_0 (v := (nI 40)) (by decide) ?_
  refine q_sipush hX dX3_heated_2 (v := (nI 200)) (by decide) ?_
  refine q_aload_n hX dX3_heated_5 rfl ?_
  refine q_getR hX gf_X3_18 rfl dX3_heated_6 (at_KET ha0) (b := (a0 + 3)) (rt_KET_2 ha0) ?_
  refine q_iload_n hX dX3_heated_9 rfl ?_
  obtain ⟨z1, h⟩ := h
  refine q_iald hX dX3_heated_10 (aa_KET_2 ha0) (inr_e z1) (inr_lt z1) (by decide) ?_
  refine q_aload_n hX dX3_heated_11 rfl ?_
  refine q_iload_n hX dX3_heated_12 rfl ?_
  refine q_V_ip hX hR (w_X3_rise ha0 h) lk_X3_42 (rc2_KET ha0) dX3_heated_13 rfl rfl (Nat.le_of_ble_eq_true rfl) (by omega) (by omega) (by omega) ?_
  intro x2 h
  refine q_iadd hX dX3_heated_16 ?_
  refine q_min hX hR mm_X3_36 w_min1 w_math w_min2 dX3_heated_17 (Nat.le_of_ble_eq_true rfl) (by omega) (by omega) (by omega) ?_
  refine q_max hX hR mm_X3_45 w_max1 w_math w_max2 dX3_heated_20 (Nat.le_of_ble_eq_true rfl) (by omega) (by omega) (by omega) ?_
  exact q_iretp hX hT dX3_heated_23 h
set_option maxRecDepth 100000 in
set_option maxHeartbeats 4000000 in
theorem w_X3_passMinute_b94 {X : XT} {D : DT} {l : Launch} {L : LT} {a0 : Nat} {a1 : Int32} {K : Int32 → IT → Prop} (hX : OK X D cX3_passMinute "TeaHouse$Kettles" 3) (hT : RT X l D (some .int) (P2 (Pi L K)) 3 0 0) (ha0 : isKet a0)  : ∀ (s0 : Int32) (I : IT), f_X3_passMinute_b94 a0 a1 K s0 I → J2 X D 3 0 0 I L 94 [.ref a0, .int a1, .retAddr 0] [.int s0] := by
  have hR := hT.room
  intro s0 I h
  rw [f_X3_passMinute_b94] at h
  refine q_istore_n hX dX3_passMinute_94 (by decide) (ls' := [_, _, _]) rfl ?_
  refine q_aload_n hX dX3_passMinute_95 rfl ?_
  refine q_getR hX gf_X3_15 rfl dX3_passMinute_96 (at_KET ha0) (b := (a0 + 2)) (rt_KET_1 ha0) ?_
  refine q_iload_n hX dX3_passMinute_99 rfl ?_
  refine q_dup2 hX dX3_passMinute_100 rfl rfl ?_
  obtain ⟨z1, h⟩ := h
  refine q_iald hX dX3_passMinute_101 (aa_KET_1 ha0) (inr_e z1) (inr_lt z1) (by decide) ?_
  refine q_iload_n hX dX3_passMinute_102 rfl ?_
  refine q_isub hX dX3_passMinute_103 ?_
  replace h := wr_e h
  refine q_iast hX dX3_passMinute_104 (aa_KET_1 ha0) (inr_e z1) (inr_lt z1) (by decide) rfl ?_
  generalize up2 _ _ _ _ = I2 at h ⊢
  refine q_iload_n hX dX3_passMinute_105 rfl ?_
  exact q_iret hX hT dX3_passMinute_106 h
set_option maxRecDepth 100000 in
set_option maxHeartbeats 4000000 in
theorem w_X3_passMinute_b65 {X : XT} {D : DT} {l : Launch} {L : LT} {a0 : Nat} {a1 : Int32} {K : Int32 → IT → Prop} (hX : OK X D cX3_passMinute "TeaHouse$Kettles" 3) (hT : RT X l D (some .int) (P2 (Pi L K)) 3 0 0) (ha0 : isKet a0)  : ∀ (s2 : Int32) (I : IT), isZ s2 → isC s2 → f_X3_passMinute_b65 a0 a1 K s2 I → J2 X D 3 0 0 I L 65 [.ref a0, .int a1, .retAddr 0] [.int s2, .int a1, .ref (a0 + 5)] := by
  have hR := hT.room
  intro s2 I hzs2 hcs2 h
  rw [f_X3_passMinute_b65] at h
  obtain ⟨z1, h⟩ := h
  replace h := wr_e h
  refine q_zast hX dX3_passMinute_65 (aa_KET_4 ha0) (inr_e z1) (inr_lt z1) (by decide) (narv_z hzs2) ?_
  generalize up2 _ _ _ _ = I2 at h ⊢
  refine q_aload_n hX dX3_passMinute_66 rfl ?_
  refine q_getR hX gf_X3_24 rfl dX3_passMinute_67 (at_KET ha0) (b := (a0 + 5)) (rt_KET_4 ha0) ?_
  refine q_iload_n hX dX3_passMinute_70 rfl ?_
  refine q_zald hX dX3_passMinute_71 (aa_KET_4 ha0) (inr_e z1) (inr_lt z1) (by decide) ?_
  refine q_if_eq hX dX3_passMinute_72 (tgt := 93) (by decide) (fun q3 => ?_) (fun q3 => ?_)
  · replace h := ite_t q3 h
    refine q_iconst hX dX3_passMinute_93 (v := (nI 0)) (by decide) ?_
    exact q_dr (w_X3_passMinute_b94 hX hT ha0   _ _  h) ⟨Or.inl rfl, Or.inl rfl, Or.inl rfl, trivial⟩
  · replace h := ite_f q3 h
    refine q_aload_n hX dX3_passMinute_75 rfl ?_
    refine q_getR hX gf_X3_21 rfl dX3_passMinute_76 (at_KET ha0) (b := (a0 + 4)) (rt_KET_3 ha0) ?_
    refine q_iload_n hX dX3_passMinute_79 rfl ?_
    refine q_iald hX dX3_passMinute_80 (aa_KET_3 ha0) (inr_e z1) (inr_lt z1) (by decide) ?_
    refine q_aload_n hX dX3_passMinute_81 rfl ?_
    refine q_getR hX gf_X3_15 rfl dX3_passMinute_82 (at_KET ha0) (b := (a0 + 2)) (rt_KET_1 ha0) ?_
    refine q_iload_n hX dX3_passMinute_85 rfl ?_
    refine q_iald hX dX3_passMinute_86 (aa_KET_1 ha0) (inr_e z1) (inr_lt z1) (by decide) ?_
    refine q_min hX hR mm_X3_36 w_min1 w_math w_min2 dX3_passMinute_87 (Nat.le_of_ble_eq_true rfl) (by omega) (by omega) (by omega) ?_
    refine q_goto hX dX3_passMinute_90 (tgt := 94) (by decide) ?_
    exact q_dr (w_X3_passMinute_b94 hX hT ha0   _ _  h) ⟨Or.inl rfl, Or.inl rfl, Or.inl rfl, trivial⟩
set_option maxRecDepth 100000 in
set_option maxHeartbeats 4000000 in
theorem w_X3_passMinute_b64 {X : XT} {D : DT} {l : Launch} {L : LT} {a0 : Nat} {a1 : Int32} {K : Int32 → IT → Prop} (hX : OK X D cX3_passMinute "TeaHouse$Kettles" 3) (hT : RT X l D (some .int) (P2 (Pi L K)) 3 0 0) (ha0 : isKet a0)  : ∀ (I : IT), f_X3_passMinute_b64 a0 a1 K I → J2 X D 3 0 0 I L 64 [.ref a0, .int a1, .retAddr 0] [.int a1, .ref (a0 + 5)] := by
  have hR := hT.room
  intro I h
  rw [f_X3_passMinute_b64] at h
  refine q_iconst hX dX3_passMinute_64 (v := (nI 0)) (by decide) ?_
  exact q_dr (w_X3_passMinute_b65 hX hT ha0   _ _ (Or.inl rfl) (isC_n (by decide)) h) ⟨Or.inl rfl, Or.inl rfl, Or.inl rfl, trivial⟩
set_option maxRecDepth 100000 in
set_option maxHeartbeats 4000000 in
theorem w_X3_passMinute_b24 {X : XT} {D : DT} {l : Launch} {L : LT} {a0 : Nat} {a1 : Int32} {K : Int32 → IT → Prop} (hX : OK X D cX3_passMinute "TeaHouse$Kettles" 3) (hT : RT X l D (some .int) (P2 (Pi L K)) 3 0 0) (ha0 : isKet a0)  : ∀ (s2 : Int32) (I : IT), f_X3_passMinute_b24 a0 a1 K s2 I → J2 X D 3 0 0 I L 24 [.ref a0, .int a1, .retAddr 0] [.int s2, .int a1, .ref (a0 + 3)] := by
  have hR := hT.room
  intro s2 I h
  rw [f_X3_passMinute_b24] at h
  obtain ⟨z1, h⟩ := h
  replace h := wr_e h
  refine q_iast hX dX3_passMinute_24 (aa_KET_2 ha0) (inr_e z1) (inr_lt z1) (by decide) rfl ?_
  generalize up2 _ _ _ _ = I2 at h ⊢
  refine q_aload_n hX dX3_passMinute_25 rfl ?_
  refine q_getR hX gf_X3_24 rfl dX3_passMinute_26 (at_KET ha0) (b := (a0 + 5)) (rt_KET_4 ha0) ?_
  refine q_iload_n hX dX3_passMinute_29 rfl ?_
  refine q_aload_n hX dX3_passMinute_30 rfl ?_
  refine q_getR hX gf_X3_15 rfl dX3_passMinute_31 (at_KET ha0) (b := (a0 + 2)) (rt_KET_1 ha0) ?_
  refine q_iload_n hX dX3_passMinute_34 rfl ?_
  refine q_iald hX dX3_passMinute_35 (aa_KET_1 ha0) (inr_e z1) (inr_lt z1) (by decide) ?_
  refine q_if_le hX dX3_passMinute_36 (tgt := 64) (by decide) (fun q3 => ?_) (fun q3 => ?_)
  · replace h := ite_t q3 h
    exact q_dr (w_X3_passMinute_b64 hX hT ha0   _  h) ⟨Or.inl rfl, Or.inl rfl, Or.inl rfl, trivial⟩
  · replace h := ite_f q3 h
    refine q_aload_n hX dX3_passMinute_39 rfl ?_
    refine q_getR hX gf_X3_18 rfl dX3_passMinute_40 (at_KET ha0) (b := (a0 + 3)) (rt_KET_2 ha0) ?_
    refine q_iload_n hX dX3_passMinute_43 rfl ?_
    refine q_iald hX dX3_passMinute_44 (aa_KET_2 ha0) (inr_e z1) (inr_lt z1) (by decide) ?_
    refine q_sipush hX dX3_passMinute_45 (v := (nI 200)) (by decide) ?_
    refine q_icmp_ne hX dX3_passMinute_48 (tgt := 64) (by decide) (fun q4 => ?_) (fun q4 => ?_)
    · replace h := ite_f q4 h
      exact q_dr (w_X3_passMinute_b64 hX hT ha0   _  h) ⟨Or.inl rfl, Or.inl rfl, Or.inl rfl, trivial⟩
    · replace h := ite_t q4 h
      refine q_aload_n hX dX3_passMinute_51 rfl ?_
      refine q_getR hX gf_X3_21 rfl dX3_passMinute_52 (at_KET ha0) (b := (a0 + 4)) (rt_KET_3 ha0) ?_
      refine q_iload_n hX dX3_passMinute_55 rfl ?_
      refine q_iald hX dX3_passMinute_56 (aa_KET_3 ha0) (inr_e z1) (inr_lt z1) (by decide) ?_
      refine q_if_le hX dX3_passMinute_57 (tgt := 64) (by decide) (fun q5 => ?_) (fun q5 => ?_)
      · replace h := ite_t q5 h
        exact q_dr (w_X3_passMinute_b64 hX hT ha0   _  h) ⟨Or.inl rfl, Or.inl rfl, Or.inl rfl, trivial⟩
      · replace h := ite_f q5 h
        refine q_iconst hX dX3_passMinute_60 (v := (nI 1)) (by decide) ?_
        refine q_goto hX dX3_passMinute_61 (tgt := 65) (by decide) ?_
        exact q_dr (w_X3_passMinute_b65 hX hT ha0   _ _ (Or.inr rfl) (isC_n (by decide)) h) ⟨Or.inl rfl, Or.inl rfl, Or.inl rfl, trivial⟩
set_option maxRecDepth 100000 in
set_option maxHeartbeats 4000000 in
theorem w_X3_passMinute {l : Launch} {D : DT} {L : LT} {a0 : Nat} {a1 : Int32} {I : IT} {K : Int32 → IT → Prop} (ha0 : isKet a0) (h : f_X3_passMinute a0 a1 I K) : Con2 l D m_X3_passMinute 3 [.ref a0, .int a1] 0 0 I L (Pi L K) := by
  refine Con2.of (by decide +kernel) (by simp [Value.category]) (Nat.le_of_ble_eq_true rfl) (fun X hX hT => ?_)
  have hX : OK X D cX3_passMinute "TeaHouse$Kettles" 3 := hX
  have hT : RT X l D (some .int) (P2 (Pi L K)) 3 0 0 := hT
  have hR := hT.room
  change J2 X D 3 0 0 I L 0 [.ref a0, .int a1, .retAddr 0] []
  rw [f_X3_passMinute] at h
  refine q_aload_n hX dX3_passMinute_0 rfl ?_
  refine q_getR hX gf_X3_18 rfl dX3_passMinute_1 (at_KET ha0) (b := (a0 + 3)) (rt_KET_2 ha0) ?_
  refine q_iload_n hX dX3_passMinute_4 rfl ?_
  refine q_aload_n hX dX3_passMinute_5 rfl ?_
  refine q_getR hX gf_X3_15 rfl dX3_passMinute_6 (at_KET ha0) (b := (a0 + 2)) (rt_KET_1 ha0) ?_
  refine q_iload_n hX dX3_passMinute_9 rfl ?_
  obtain ⟨z1, h⟩ := h
  refine q_iald hX dX3_passMinute_10 (aa_KET_1 ha0) (inr_e z1) (inr_lt z1) (by decide) ?_
  refine q_if_ne hX dX3_passMinute_11 (tgt := 19) (by decide) (fun q2 => ?_) (fun q2 => ?_)
  · replace h := ite_f q2 h
    refine q_aload_n hX dX3_passMinute_19 rfl ?_
    refine q_iload_n hX dX3_passMinute_20 rfl ?_
    refine q_V_ip hX hR (w_X3_heated ha0 h) lk_X3_32 (rc2_KET ha0) dX3_passMinute_21 rfl rfl (Nat.le_of_ble_eq_true rfl) (by omega) (by omega) (by omega) ?_
    intro x3 h
    exact q_dr (w_X3_passMinute_b24 hX hT ha0   _ _  h) ⟨Or.inl rfl, Or.inl rfl, Or.inl rfl, trivial⟩
  · replace h := ite_t q2 h
    refine q_bipush hX dX3_passMinute_14 (v := (nI 40)) (by decide) ?_
    refine q_goto hX dX3_passMinute_16 (tgt := 24) (by decide) ?_
    exact q_dr (w_X3_passMinute_b24 hX hT ha0   _ _  h) ⟨Or.inl rfl, Or.inl rfl, Or.inl rfl, trivial⟩
set_option maxRecDepth 100000 in
set_option maxHeartbeats 4000000 in
theorem w_X1_passMinutes_b12 {X : XT} {D : DT} {l : Launch} {L : LT} {a0 : Nat} {a1 : Int32} {K : Int32 → IT → Prop} {X4 : Int32 → Int32 → IT → Prop} (hX : OK X D cX1_passMinutes "TeaHouse$House" 7) (hT : RT X l D (some .int) (P2 (Pi L K)) 4 0 0) (ha0 : isHou a0) (hx4 : ∀ (v2 : Int32) (v3 : Int32) (I : IT), X4 v2 v3 I → J2 X D 7 0 0 I L 4 [.ref a0, .int a1, .int v2, .int v3, .retAddr 0, .retAddr 0, .retAddr 0] []) : ∀ (n : Nat), ∀ (v2 : Int32) (v3 : Int32) (v4 : Int32) (I : IT), f_X1_passMinutes_b12 a0 a1 X4 K n v2 v3 v4 I → J2 X D 7 0 0 I L 12 [.ref a0, .int a1, .int v2, .int v3, .int v4, .retAddr 0, .retAddr 0] [] := by
  have hR := hT.room
  intro n
  induction n with
  | zero => intro v2 v3 v4 I h; exact False.elim h
  | succ n ih =>
    intro v2 v3 v4 I h
    rw [f_X1_passMinutes_b12] at h
    refine q_iload hX dX1_passMinutes_12 rfl ?_
    refine q_aload_n hX dX1_passMinutes_14 rfl ?_
    refine q_getR hX gf_X1_12 rfl dX1_passMinutes_15 (at_HOU ha0) (b := (a0 + 1)) (rt_HOU_0 ha0) ?_
    refine q_getI hX gf_X1_93 rfl dX1_passMinutes_18 (at_KET (ket_hou0 ha0)) ?_
    refine q_icmp_ge hX dX1_passMinutes_21 (tgt := 96) (by decide) (fun q1 => ?_) (fun q1 => ?_)
    · replace h := ite_t q1 h
      replace h := bnd_e h
      refine q_iinc hX dX1_passMinutes_96 (by decide) rfl (v := _ + nI 1) (ls' := [_, _, _, _, _, _, _]) rfl rfl ?_
      refine q_goto hX dX1_passMinutes_99 (tgt := 4) (by decide) ?_
      exact q_dr (hx4 _ _ _  h) ⟨Or.inl rfl, Or.inl rfl, Or.inl rfl, Or.inl rfl, Or.inr rfl, Or.inl rfl, Or.inl rfl, trivial⟩
    · replace h := ite_f q1 h
      refine q_aload_n hX dX1_passMinutes_24 rfl ?_
      refine q_getR hX gf_X1_12 rfl dX1_passMinutes_25 (at_HOU ha0) (b := (a0 + 1)) (rt_HOU_0 ha0) ?_
      refine q_getR hX gf_X1_202 rfl dX1_passMinutes_28 (at_KET (ket_hou0 ha0)) (b := (a0 + 6)) (rt_KET_4 (ket_hou0 ha0)) ?_
      refine q_iload hX dX1_passMinutes_31 rfl ?_
      obtain ⟨z3, h⟩ := h
      refine q_zald hX dX1_passMinutes_33 (aa_KET_4 (ket_hou0 ha0)) (inr_e z3) (inr_lt z3) (by decide) ?_
      replace h := bnd_e h
      refine q_istore hX dX1_passMinutes_34 (by decide) (ls' := [_, _, _, _, _, _, _]) rfl ?_
      refine q_aload_n hX dX1_passMinutes_36 rfl ?_
      refine q_getR hX gf_X1_12 rfl dX1_passMinutes_37 (at_HOU ha0) (b := (a0 + 1)) (rt_HOU_0 ha0) ?_
      refine q_iload hX dX1_passMinutes_40 rfl ?_
      refine q_V_i hX hR (w_X3_passMinute (ket_hou0 ha0) h) lk_X1_205 (rc2_KET (ket_hou0 ha0)) dX1_passMinutes_42 rfl rfl (Nat.le_of_ble_eq_true rfl) (by omega) (by omega) (by omega) ?_
      intro x5 I6 h
      refine q_istore hX dX1_passMinutes_45 (by decide) (ls' := [_, _, _, _, _, _, _]) rfl ?_
      refine q_aload_n hX dX1_passMinutes_47 rfl ?_
      refine q_dup hX dX1_passMinutes_48 rfl ?_
      refine q_getI hX gf_X1_36 rfl dX1_passMinutes_49 (at_HOU ha0) ?_
      refine q_iload hX dX1_passMinutes_52 rfl ?_
      refine q_iadd hX dX1_passMinutes_54 ?_
      replace h := wr_e h
      refine q_putI hX pf_X1_36 rfl dX1_passMinutes_55 (at_HOU ha0) rfl rfl ?_
      generalize up2 _ _ _ _ = I7 at h ⊢
      refine q_aload_n hX dX1_passMinutes_58 rfl ?_
      refine q_dup hX dX1_passMinutes_59 rfl ?_
      refine q_getI hX gf_X1_39 rfl dX1_passMinutes_60 (at_HOU ha0) ?_
      refine q_iload hX dX1_passMinutes_63 rfl ?_
      refine q_iadd hX dX1_passMinutes_65 ?_
      replace h := wr_e h
      refine q_putI hX pf_X1_39 rfl dX1_passMinutes_66 (at_HOU ha0) rfl rfl ?_
      generalize up2 _ _ _ _ = I8 at h ⊢
      refine q_aload_n hX dX1_passMinutes_69 rfl ?_
      refine q_getR hX gf_X1_12 rfl dX1_passMinutes_70 (at_HOU ha0) (b := (a0 + 1)) (rt_HOU_0 ha0) ?_
      refine q_getR hX gf_X1_202 rfl dX1_passMinutes_73 (at_KET (ket_hou0 ha0)) (b := (a0 + 6)) (rt_KET_4 (ket_hou0 ha0)) ?_
      refine q_iload hX dX1_passMinutes_76 rfl ?_
      refine q_zald hX dX1_passMinutes_78 (aa_KET_4 (ket_hou0 ha0)) (inr_e z3) (inr_lt z3) (by decide) ?_
      refine q_if_eq hX dX1_passMinutes_79 (tgt := 90) (by decide) (fun q9 => ?_) (fun q9 => ?_)
      · replace h := ite_t q9 h
        replace h := bnd_e h
        refine q_iinc hX dX1_passMinutes_90 (by decide) rfl (v := _ + nI 1) (ls' := [_, _, _, _, _, _, _]) rfl rfl ?_
        refine q_goto hX dX1_passMinutes_93 (tgt := 12) (by decide) ?_
        exact q_dr (ih _ _ _ _  h) ⟨Or.inl rfl, Or.inl rfl, Or.inl rfl, Or.inl rfl, Or.inl rfl, Or.inr rfl, Or.inr rfl, trivial⟩
      · replace h := ite_f q9 h
        refine q_iload hX dX1_passMinutes_82 rfl ?_
        refine q_if_ne hX dX1_passMinutes_84 (tgt := 90) (by decide) (fun q11 => ?_) (fun q11 => ?_)
        · replace h := ite_f q11 h
          replace h := bnd_e h
          refine q_iinc hX dX1_passMinutes_90 (by decide) rfl (v := _ + nI 1) (ls' := [_, _, _, _, _, _, _]) rfl rfl ?_
          refine q_goto hX dX1_passMinutes_93 (tgt := 12) (by decide) ?_
          exact q_dr (ih _ _ _ _  h) ⟨Or.inl rfl, Or.inl rfl, Or.inl rfl, Or.inl rfl, Or.inl rfl, Or.inr rfl, Or.inr rfl, trivial⟩
        · replace h := ite_t q11 h
          replace h := bnd_e h
          refine q_iinc hX dX1_passMinutes_87 (by decide) rfl (v := _ + nI 1) (ls' := [_, _, _, _, _, _, _]) rfl rfl ?_
          replace h := bnd_e h
          refine q_iinc hX dX1_passMinutes_90 (by decide) rfl (v := _ + nI 1) (ls' := [_, _, _, _, _, _, _]) rfl rfl ?_
          refine q_goto hX dX1_passMinutes_93 (tgt := 12) (by decide) ?_
          exact q_dr (ih _ _ _ _  h) ⟨Or.inl rfl, Or.inl rfl, Or.inl rfl, Or.inl rfl, Or.inl rfl, Or.inr rfl, Or.inr rfl, trivial⟩
set_option maxRecDepth 100000 in
set_option maxHeartbeats 4000000 in
theorem w_X1_passMinutes_b4 {X : XT} {D : DT} {l : Launch} {L : LT} {a0 : Nat} {a1 : Int32} {K : Int32 → IT → Prop} (hX : OK X D cX1_passMinutes "TeaHouse$House" 7) (hT : RT X l D (some .int) (P2 (Pi L K)) 4 0 0) (ha0 : isHou a0)  : ∀ (n : Nat), ∀ (v2 : Int32) (v3 : Int32) (I : IT), f_X1_passMinutes_b4 a0 a1 K n v2 v3 I → J2 X D 7 0 0 I L 4 [.ref a0, .int a1, .int v2, .int v3, .retAddr 0, .retAddr 0, .retAddr 0] [] := by
  have hR := hT.room
  intro n
  induction n with
  | zero => intro v2 v3 I h; exact False.elim h
  | succ n ih =>
    intro v2 v3 I h
    rw [f_X1_passMinutes_b4] at h
    refine q_iload_n hX dX1_passMinutes_4 rfl ?_
    refine q_iload_n hX dX1_passMinutes_5 rfl ?_
    refine q_icmp_ge hX dX1_passMinutes_6 (tgt := 102) (by decide) (fun q1 => ?_) (fun q1 => ?_)
    · replace h := ite_t q1 h
      refine q_aload_n hX dX1_passMinutes_102 rfl ?_
      refine q_getI hX gf_X1_54 rfl dX1_passMinutes_103 (at_HOU ha0) ?_
      refine q_if_eq hX dX1_passMinutes_106 (tgt := 122) (by decide) (fun q2 => ?_) (fun q2 => ?_)
      · replace h := ite_t q2 h
        refine q_aload_n hX dX1_passMinutes_122 rfl ?_
        refine q_dup hX dX1_passMinutes_123 rfl ?_
        refine q_getI hX gf_X1_64 rfl dX1_passMinutes_124 (at_HOU ha0) ?_
        refine q_iload_n hX dX1_passMinutes_127 rfl ?_
        refine q_iadd hX dX1_passMinutes_128 ?_
        replace h := wr_e h
        refine q_putI hX pf_X1_64 rfl dX1_passMinutes_129 (at_HOU ha0) rfl rfl ?_
        generalize up2 _ _ _ _ = I3 at h ⊢
        refine q_iload_n hX dX1_passMinutes_132 rfl ?_
        exact q_iret hX hT dX1_passMinutes_133 h
      · replace h := ite_f q2 h
        refine q_aload_n hX dX1_passMinutes_109 rfl ?_
        refine q_dup hX dX1_passMinutes_110 rfl ?_
        refine q_getI hX gf_X1_61 rfl dX1_passMinutes_111 (at_HOU ha0) ?_
        refine q_iload_n hX dX1_passMinutes_114 rfl ?_
        refine q_iadd hX dX1_passMinutes_115 ?_
        replace h := wr_e h
        refine q_putI hX pf_X1_61 rfl dX1_passMinutes_116 (at_HOU ha0) rfl rfl ?_
        generalize up2 _ _ _ _ = I4 at h ⊢
        refine q_goto hX dX1_passMinutes_119 (tgt := 132) (by decide) ?_
        refine q_iload_n hX dX1_passMinutes_132 rfl ?_
        exact q_iret hX hT dX1_passMinutes_133 h
    · replace h := ite_f q1 h
      refine q_iconst hX dX1_passMinutes_9 (v := (nI 0)) (by decide) ?_
      refine q_istore hX dX1_passMinutes_10 (by decide) (ls' := [_, _, _, _, _, _, _]) rfl ?_
      exact q_dr (w_X1_passMinutes_b12 hX hT ha0 (fun _ _ _ h => ih _ _ _  h) _  _ _ _ _  h) ⟨Or.inl rfl, Or.inl rfl, Or.inl rfl, Or.inl rfl, Or.inl rfl, Or.inl rfl, Or.inl rfl, trivial⟩
set_option maxRecDepth 100000 in
set_option maxHeartbeats 4000000 in
theorem w_X1_passMinutes {l : Launch} {D : DT} {L : LT} {a0 : Nat} {a1 : Int32} {I : IT} {K : Int32 → IT → Prop} (ha0 : isHou a0) (h : f_X1_passMinutes a0 a1 I K) : Con2 l D m_X1_passMinutes 4 [.ref a0, .int a1] 0 0 I L (Pi L K) := by
  refine Con2.of (by decide +kernel) (by simp [Value.category]) (Nat.le_of_ble_eq_true rfl) (fun X hX hT => ?_)
  have hX : OK X D cX1_passMinutes "TeaHouse$House" 7 := hX
  have hT : RT X l D (some .int) (P2 (Pi L K)) 4 0 0 := hT
  have hR := hT.room
  change J2 X D 7 0 0 I L 0 [.ref a0, .int a1, .retAddr 0, .retAddr 0, .retAddr 0, .retAddr 0, .retAddr 0] []
  rw [f_X1_passMinutes] at h
  refine q_iconst hX dX1_passMinutes_0 (v := (nI 0)) (by decide) ?_
  refine q_istore_n hX dX1_passMinutes_1 (by decide) (ls' := [_, _, _, _, _, _, _]) rfl ?_
  refine q_iconst hX dX1_passMinutes_2 (v := (nI 0)) (by decide) ?_
  refine q_istore_n hX dX1_passMinutes_3 (by decide) (ls' := [_, _, _, _, _, _, _]) rfl ?_
  exact q_dr (w_X1_passMinutes_b4 hX hT ha0  _  _ _ _  h) ⟨Or.inl rfl, Or.inl rfl, Or.inl rfl, Or.inl rfl, Or.inl rfl, Or.inl rfl, Or.inl rfl, trivial⟩
set_option maxRecDepth 100000 in
set_option maxHeartbeats 4000000 in
theorem w_X4_enterSteam {l : Launch} {D : DT} {L : LT} {a0 : Nat} {a1 : Int32} {I : IT} {K : IT → Prop} (ha0 : isLed a0) (h : f_X4_enterSteam a0 a1 I K) : Con2 l D m_X4_enterSteam 1 [.ref a0, .int a1] 0 0 I L (Pv L K) := by
  refine Con2.of (by decide +kernel) (by simp [Value.category]) (Nat.le_of_ble_eq_true rfl) (fun X hX hT => ?_)
  have hX : OK X D cX4_enterSteam "TeaHouse$Ledger" 2 := hX
  have hT : RT X l D none (P2 (Pv L K)) 1 0 0 := hT
  have hR := hT.room
  change J2 X D 2 0 0 I L 0 [.ref a0, .int a1] []
  rw [f_X4_enterSteam] at h
  refine q_aload_n hX dX4_enterSteam_0 rfl ?_
  refine q_dup hX dX4_enterSteam_1 rfl ?_
  refine q_getI hX gf_X4_22 rfl dX4_enterSteam_2 (at_LED ha0) ?_
  refine q_iload_n hX dX4_enterSteam_5 rfl ?_
  refine q_iadd hX dX4_enterSteam_6 ?_
  replace h := wr_e h
  refine q_putI hX pf_X4_22 rfl dX4_enterSteam_7 (at_LED ha0) rfl rfl ?_
  generalize up2 _ _ _ _ = I1 at h ⊢
  refine q_aload_n hX dX4_enterSteam_10 rfl ?_
  refine q_dup hX dX4_enterSteam_11 rfl ?_
  refine q_getI hX gf_X4_28 rfl dX4_enterSteam_12 (at_LED ha0) ?_
  refine q_iload_n hX dX4_enterSteam_15 rfl ?_
  refine q_iadd hX dX4_enterSteam_16 ?_
  replace h := wr_e h
  refine q_putI hX pf_X4_28 rfl dX4_enterSteam_17 (at_LED ha0) rfl rfl ?_
  generalize up2 _ _ _ _ = I2 at h ⊢
  exact q_vret hX hT dX4_enterSteam_20 h
set_option maxRecDepth 100000 in
set_option maxHeartbeats 4000000 in
theorem w_X1_sell {l : Launch} {D : DT} {L : LT} {a0 : Nat} {a1 : Int32} {I : IT} {K : Int32 → IT → Prop} (ha0 : isHou a0) (h : f_X1_sell a0 a1 I K) : Con2 l D m_X1_sell 2 [.ref a0, .int a1] 0 0 I L (Pi L K) := by
  refine Con2.of (by decide +kernel) (by simp [Value.category]) (Nat.le_of_ble_eq_true rfl) (fun X hX hT => ?_)
  have hX : OK X D cX1_sell "TeaHouse$House" 3 := hX
  have hT : RT X l D (some .int) (P2 (Pi L K)) 2 0 0 := hT
  have hR := hT.room
  change J2 X D 3 0 0 I L 0 [.ref a0, .int a1, .retAddr 0] []
  rw [f_X1_sell] at h
  refine q_iload_n hX dX1_sell_0 rfl ?_
  refine q_aload_n hX dX1_sell_1 rfl ?_
  refine q_getI hX gf_X1_51 rfl dX1_sell_2 (at_HOU ha0) ?_
  refine q_imul hX dX1_sell_5 ?_
  replace h := bnd_e h
  refine q_istore_n hX dX1_sell_6 (by decide) (ls' := [_, _, _]) rfl ?_
  refine q_aload_n hX dX1_sell_7 rfl ?_
  refine q_dup hX dX1_sell_8 rfl ?_
  refine q_getI hX gf_X1_36 rfl dX1_sell_9 (at_HOU ha0) ?_
  refine q_iload_n hX dX1_sell_12 rfl ?_
  refine q_isub hX dX1_sell_13 ?_
  replace h := wr_e h
  refine q_putI hX pf_X1_36 rfl dX1_sell_14 (at_HOU ha0) rfl rfl ?_
  generalize up2 _ _ _ _ = I2 at h ⊢
  refine q_aload_n hX dX1_sell_17 rfl ?_
  refine q_getR hX gf_X1_28 rfl dX1_sell_18 (at_HOU ha0) (b := (a0 + 13)) (rt_HOU_2 ha0) ?_
  refine q_iload_n hX dX1_sell_21 rfl ?_
  refine q_V_v hX hR (w_X4_enterSteam (led_hou2 ha0) h) lk_X1_199 (rc2_LED (led_hou2 ha0)) dX1_sell_22 rfl rfl (Nat.le_of_ble_eq_true rfl) (by omega) (by omega) (by omega) ?_
  intro I3 h
  refine q_iload_n hX dX1_sell_25 rfl ?_
  exact q_iret hX hT dX1_sell_26 h
set_option maxRecDepth 100000 in
set_option maxHeartbeats 4000000 in
theorem w_X4_enterCups {l : Launch} {D : DT} {L : LT} {a0 : Nat} {a1 : Int32} {I : IT} {K : IT → Prop} (ha0 : isLed a0) (h : f_X4_enterCups a0 a1 I K) : Con2 l D m_X4_enterCups 1 [.ref a0, .int a1] 0 0 I L (Pv L K) := by
  refine Con2.of (by decide +kernel) (by simp [Value.category]) (Nat.le_of_ble_eq_true rfl) (fun X hX hT => ?_)
  have hX : OK X D cX4_enterCups "TeaHouse$Ledger" 2 := hX
  have hT : RT X l D none (P2 (Pv L K)) 1 0 0 := hT
  have hR := hT.room
  change J2 X D 2 0 0 I L 0 [.ref a0, .int a1] []
  rw [f_X4_enterCups] at h
  refine q_aload_n hX dX4_enterCups_0 rfl ?_
  refine q_dup hX dX4_enterCups_1 rfl ?_
  refine q_getI hX gf_X4_22 rfl dX4_enterCups_2 (at_LED ha0) ?_
  refine q_iload_n hX dX4_enterCups_5 rfl ?_
  refine q_iadd hX dX4_enterCups_6 ?_
  replace h := wr_e h
  refine q_putI hX pf_X4_22 rfl dX4_enterCups_7 (at_LED ha0) rfl rfl ?_
  generalize up2 _ _ _ _ = I1 at h ⊢
  refine q_aload_n hX dX4_enterCups_10 rfl ?_
  refine q_dup hX dX4_enterCups_11 rfl ?_
  refine q_getI hX gf_X4_25 rfl dX4_enterCups_12 (at_LED ha0) ?_
  refine q_iload_n hX dX4_enterCups_15 rfl ?_
  refine q_iadd hX dX4_enterCups_16 ?_
  replace h := wr_e h
  refine q_putI hX pf_X4_25 rfl dX4_enterCups_17 (at_LED ha0) rfl rfl ?_
  generalize up2 _ _ _ _ = I2 at h ⊢
  exact q_vret hX hT dX4_enterCups_20 h
set_option maxRecDepth 100000 in
set_option maxHeartbeats 4000000 in
theorem w_X5_remove_b15 {X : XT} {D : DT} {l : Launch} {L : LT} {a0 : Nat} {a1 : Int32} {K : IT → Prop} (hX : OK X D cX5_remove "TeaHouse$Orders" 3) (hT : RT X l D none (P2 (Pv L K)) 2 0 0) (ha0 : isOrd a0)  : ∀ (n : Nat), ∀ (v2 : Int32) (I : IT), f_X5_remove_b15 a0 a1 K n v2 I → J2 X D 3 0 0 I L 15 [.ref a0, .retAddr 0, .int v2] [] := by
  have hR := hT.room
  intro n
  induction n with
  | zero => intro v2 I h; exact False.elim h
  | succ n ih =>
    intro v2 I h
    rw [f_X5_remove_b15] at h
    refine q_iload_n hX dX5_remove_15 rfl ?_
    refine q_aload_n hX dX5_remove_16 rfl ?_
    refine q_getI hX gf_X5_27 rfl dX5_remove_17 (at_ORD ha0) ?_
    refine q_iconst hX dX5_remove_20 (v := (nI 1)) (by decide) ?_
    refine q_isub hX dX5_remove_21 ?_
    refine q_icmp_ge hX dX5_remove_22 (tgt := 40) (by decide) (fun q1 => ?_) (fun q1 => ?_)
    · replace h := ite_t q1 h
      refine q_aload_n hX dX5_remove_40 rfl ?_
      refine q_dup hX dX5_remove_41 rfl ?_
      refine q_getI hX gf_X5_27 rfl dX5_remove_42 (at_ORD ha0) ?_
      refine q_iconst hX dX5_remove_45 (v := (nI 1)) (by decide) ?_
      refine q_isub hX dX5_remove_46 ?_
      replace h := wr_e h
      refine q_putI hX pf_X5_27 rfl dX5_remove_47 (at_ORD ha0) rfl rfl ?_
      generalize up2 _ _ _ _ = I2 at h ⊢
      exact q_vret hX hT dX5_remove_50 h
    · replace h := ite_f q1 h
      refine q_aload_n hX dX5_remove_25 rfl ?_
      refine q_aload_n hX dX5_remove_26 rfl ?_
      refine q_iload_n hX dX5_remove_27 rfl ?_
      refine q_iconst hX dX5_remove_28 (v := (nI 1)) (by decide) ?_
      refine q_iadd hX dX5_remove_29 ?_
      refine q_iload_n hX dX5_remove_30 rfl ?_
      refine q_V_v hX hR (w_X5_copyOrder ha0 ha0 h) lk_X5_34 (rc2_ORD ha0) dX5_remove_31 rfl rfl (Nat.le_of_ble_eq_true rfl) (by omega) (by omega) (by omega) ?_
      intro I3 h
      replace h := bnd_e h
      refine q_iinc hX dX5_remove_34 (by decide) rfl (v := _ + nI 1) (ls' := [_, _, _]) rfl rfl ?_
      refine q_goto hX dX5_remove_37 (tgt := 15) (by decide) ?_
      exact q_dr (ih _ _  h) ⟨Or.inl rfl, Or.inl rfl, Or.inl rfl, trivial⟩
set_option maxRecDepth 100000 in
set_option maxHeartbeats 4000000 in
theorem w_X5_remove {l : Launch} {D : DT} {L : LT} {a0 : Nat} {a1 : Int32} {I : IT} {K : IT → Prop} (ha0 : isOrd a0) (h : f_X5_remove a0 a1 I K) : Con2 l D m_X5_remove 2 [.ref a0, .int a1] 0 0 I L (Pv L K) := by
  refine Con2.of (by decide +kernel) (by simp [Value.category]) (Nat.le_of_ble_eq_true rfl) (fun X hX hT => ?_)
  have hX : OK X D cX5_remove "TeaHouse$Orders" 3 := hX
  have hT : RT X l D none (P2 (Pv L K)) 2 0 0 := hT
  have hR := hT.room
  change J2 X D 3 0 0 I L 0 [.ref a0, .int a1, .retAddr 0] []
  rw [f_X5_remove] at h
  refine q_iload_n hX dX5_remove_0 rfl ?_
  refine q_if_lt hX dX5_remove_1 (tgt := 12) (by decide) (fun q1 => ?_) (fun q1 => ?_)
  · replace h := ite_t q1 h
    exact q_vret hX hT dX5_remove_12 h
  · replace h := ite_f q1 h
    refine q_iload_n hX dX5_remove_4 rfl ?_
    refine q_aload_n hX dX5_remove_5 rfl ?_
    refine q_getI hX gf_X5_27 rfl dX5_remove_6 (at_ORD ha0) ?_
    refine q_icmp_lt hX dX5_remove_9 (tgt := 13) (by decide) (fun q2 => ?_) (fun q2 => ?_)
    · replace h := ite_t q2 h
      refine q_iload_n hX dX5_remove_13 rfl ?_
      refine q_istore_n hX dX5_remove_14 (by decide) (ls' := [_, _, _]) rfl ?_
      exact q_dr (w_X5_remove_b15 hX hT ha0  _  _ _  h) ⟨Or.inl rfl, Or.inr rfl, Or.inl rfl, trivial⟩
    · replace h := ite_f q2 h
      exact q_vret hX hT dX5_remove_12 h
set_option maxRecDepth 100000 in
set_option maxHeartbeats 4000000 in
theorem w_X1_serveFirst {l : Launch} {D : DT} {L : LT} {a0 : Nat} {I : IT} {K : Int32 → IT → Prop} (ha0 : isHou a0) (h : f_X1_serveFirst a0 I K) : Con2 l D m_X1_serveFirst 3 [.ref a0] 0 0 I L (Pi L K) := by
  refine Con2.of (by decide +kernel) (by simp [Value.category]) (Nat.le_of_ble_eq_true rfl) (fun X hX hT => ?_)
  have hX : OK X D cX1_serveFirst "TeaHouse$House" 4 := hX
  have hT : RT X l D (some .int) (P2 (Pi L K)) 3 0 0 := hT
  have hR := hT.room
  change J2 X D 4 0 0 I L 0 [.ref a0, .retAddr 0, .retAddr 0, .retAddr 0] []
  rw [f_X1_serveFirst] at h
  refine q_aload_n hX dX1_serveFirst_0 rfl ?_
  refine q_V_ip hX hR (w_X1_kettleForFirst ha0 h) lk_X1_190 (rc2_HOU ha0) dX1_serveFirst_1 rfl rfl (Nat.le_of_ble_eq_true rfl) (by omega) (by omega) (by omega) ?_
  intro x1 h
  refine q_istore_n hX dX1_serveFirst_4 (by decide) (ls' := [_, _, _, _]) rfl ?_
  refine q_iload_n hX dX1_serveFirst_5 rfl ?_
  refine q_iconst hX dX1_serveFirst_6 (v := (-1)) (by decide) ?_
  refine q_icmp_ne hX dX1_serveFirst_7 (tgt := 12) (by decide) (fun q2 => ?_) (fun q2 => ?_)
  · replace h := ite_f q2 h
    refine q_aload_n hX dX1_serveFirst_12 rfl ?_
    refine q_getR hX gf_X1_21 rfl dX1_serveFirst_13 (at_HOU ha0) (b := (a0 + 7)) (rt_HOU_1 ha0) ?_
    refine q_getR hX gf_X1_181 rfl dX1_serveFirst_16 (at_ORD (ord_hou1 ha0)) (b := (a0 + 10)) (rt_ORD_2 (ord_hou1 ha0)) ?_
    refine q_iconst hX dX1_serveFirst_19 (v := (nI 0)) (by decide) ?_
    refine q_iald hX dX1_serveFirst_20 (aa_ORD_2 (ord_hou1 ha0)) (j := 0) rfl (by decide) (by decide) ?_
    replace h := bnd_e h
    refine q_istore_n hX dX1_serveFirst_21 (by decide) (ls' := [_, _, _, _]) rfl ?_
    refine q_aload_n hX dX1_serveFirst_22 rfl ?_
    refine q_getR hX gf_X1_21 rfl dX1_serveFirst_23 (at_HOU ha0) (b := (a0 + 7)) (rt_HOU_1 ha0) ?_
    refine q_getR hX gf_X1_193 rfl dX1_serveFirst_26 (at_ORD (ord_hou1 ha0)) (b := (a0 + 8)) (rt_ORD_0 (ord_hou1 ha0)) ?_
    refine q_iconst hX dX1_serveFirst_29 (v := (nI 0)) (by decide) ?_
    refine q_iald hX dX1_serveFirst_30 (aa_ORD_0 (ord_hou1 ha0)) (j := 0) rfl (by decide) (by decide) ?_
    replace h := bnd_e h
    refine q_istore_n hX dX1_serveFirst_31 (by decide) (ls' := [_, _, _, _]) rfl ?_
    refine q_aload_n hX dX1_serveFirst_32 rfl ?_
    refine q_getR hX gf_X1_12 rfl dX1_serveFirst_33 (at_HOU ha0) (b := (a0 + 1)) (rt_HOU_0 ha0) ?_
    refine q_getR hX gf_X1_175 rfl dX1_serveFirst_36 (at_KET (ket_hou0 ha0)) (b := (a0 + 3)) (rt_KET_1 (ket_hou0 ha0)) ?_
    refine q_iload_n hX dX1_serveFirst_39 rfl ?_
    refine q_dup2 hX dX1_serveFirst_40 rfl rfl ?_
    obtain ⟨z5, h⟩ := h
    refine q_iald hX dX1_serveFirst_41 (aa_KET_1 (ket_hou0 ha0)) (inr_e z5) (inr_lt z5) (by decide) ?_
    refine q_iload_n hX dX1_serveFirst_42 rfl ?_
    refine q_iconst hX dX1_serveFirst_43 (v := (nI 2)) (by decide) ?_
    refine q_imul hX dX1_serveFirst_44 ?_
    refine q_isub hX dX1_serveFirst_45 ?_
    replace h := wr_e h
    refine q_iast hX dX1_serveFirst_46 (aa_KET_1 (ket_hou0 ha0)) (inr_e z5) (inr_lt z5) (by decide) rfl ?_
    generalize up2 _ _ _ _ = I6 at h ⊢
    refine q_aload_n hX dX1_serveFirst_47 rfl ?_
    refine q_dup hX dX1_serveFirst_48 rfl ?_
    refine q_getI hX gf_X1_42 rfl dX1_serveFirst_49 (at_HOU ha0) ?_
    refine q_iload_n hX dX1_serveFirst_52 rfl ?_
    refine q_iconst hX dX1_serveFirst_53 (v := (nI 2)) (by decide) ?_
    refine q_imul hX dX1_serveFirst_54 ?_
    refine q_iadd hX dX1_serveFirst_55 ?_
    replace h := wr_e h
    refine q_putI hX pf_X1_42 rfl dX1_serveFirst_56 (at_HOU ha0) rfl rfl ?_
    generalize up2 _ _ _ _ = I7 at h ⊢
    refine q_aload_n hX dX1_serveFirst_59 rfl ?_
    refine q_dup hX dX1_serveFirst_60 rfl ?_
    refine q_getI hX gf_X1_32 rfl dX1_serveFirst_61 (at_HOU ha0) ?_
    refine q_iload_n hX dX1_serveFirst_64 rfl ?_
    refine q_isub hX dX1_serveFirst_65 ?_
    replace h := wr_e h
    refine q_putI hX pf_X1_32 rfl dX1_serveFirst_66 (at_HOU ha0) rfl rfl ?_
    generalize up2 _ _ _ _ = I8 at h ⊢
    refine q_aload_n hX dX1_serveFirst_69 rfl ?_
    refine q_dup hX dX1_serveFirst_70 rfl ?_
    refine q_getI hX gf_X1_58 rfl dX1_serveFirst_71 (at_HOU ha0) ?_
    refine q_iconst hX dX1_serveFirst_74 (v := (nI 1)) (by decide) ?_
    refine q_iadd hX dX1_serveFirst_75 ?_
    replace h := wr_e h
    refine q_putI hX pf_X1_58 rfl dX1_serveFirst_76 (at_HOU ha0) rfl rfl ?_
    generalize up2 _ _ _ _ = I9 at h ⊢
    refine q_aload_n hX dX1_serveFirst_79 rfl ?_
    refine q_getR hX gf_X1_28 rfl dX1_serveFirst_80 (at_HOU ha0) (b := (a0 + 13)) (rt_HOU_2 ha0) ?_
    refine q_iload_n hX dX1_serveFirst_83 rfl ?_
    refine q_aload_n hX dX1_serveFirst_84 rfl ?_
    refine q_getI hX gf_X1_48 rfl dX1_serveFirst_85 (at_HOU ha0) ?_
    refine q_imul hX dX1_serveFirst_88 ?_
    refine q_V_v hX hR (w_X4_enterCups (led_hou2 ha0) h) lk_X1_196 (rc2_LED (led_hou2 ha0)) dX1_serveFirst_89 rfl rfl (Nat.le_of_ble_eq_true rfl) (by omega) (by omega) (by omega) ?_
    intro I10 h
    refine q_aload_n hX dX1_serveFirst_92 rfl ?_
    refine q_getR hX gf_X1_21 rfl dX1_serveFirst_93 (at_HOU ha0) (b := (a0 + 7)) (rt_HOU_1 ha0) ?_
    refine q_iconst hX dX1_serveFirst_96 (v := (nI 0)) (by decide) ?_
    refine q_V_v hX hR (w_X5_remove (ord_hou1 ha0) h) lk_X1_143 (rc2_ORD (ord_hou1 ha0)) dX1_serveFirst_97 rfl rfl (Nat.le_of_ble_eq_true rfl) (by omega) (by omega) (by omega) ?_
    intro I11 h
    refine q_iload_n hX dX1_serveFirst_100 rfl ?_
    exact q_iret hX hT dX1_serveFirst_101 h
  · replace h := ite_t q2 h
    refine q_iconst hX dX1_serveFirst_10 (v := (-1)) (by decide) ?_
    exact q_iret hX hT dX1_serveFirst_11 h
set_option maxRecDepth 100000 in
set_option maxHeartbeats 4000000 in
theorem w_X3_add {l : Launch} {D : DT} {L : LT} {a0 : Nat} {a1 : Int32} {I : IT} {K : Int32 → IT → Prop} (ha0 : isKet a0) (h : f_X3_add a0 a1 I K) : Con2 l D m_X3_add 1 [.ref a0, .int a1] 0 0 I L (Pi L K) := by
  refine Con2.of (by decide +kernel) (by simp [Value.category]) (Nat.le_of_ble_eq_true rfl) (fun X hX hT => ?_)
  have hX : OK X D cX3_add "TeaHouse$Kettles" 3 := hX
  have hT : RT X l D (some .int) (P2 (Pi L K)) 1 0 0 := hT
  have hR := hT.room
  change J2 X D 3 0 0 I L 0 [.ref a0, .int a1, .retAddr 0] []
  rw [f_X3_add] at h
  refine q_aload_n hX dX3_add_0 rfl ?_
  refine q_getI hX gf_X3_28 rfl dX3_add_1 (at_KET ha0) ?_
  refine q_iconst hX dX3_add_4 (v := (nI 4)) (by decide) ?_
  refine q_icmp_lt hX dX3_add_5 (tgt := 10) (by decide) (fun q1 => ?_) (fun q1 => ?_)
  · replace h := ite_t q1 h
    refine q_aload_n hX dX3_add_10 rfl ?_
    refine q_getI hX gf_X3_28 rfl dX3_add_11 (at_KET ha0) ?_
    replace h := bnd_e h
    refine q_istore_n hX dX3_add_14 (by decide) (ls' := [_, _, _]) rfl ?_
    refine q_aload_n hX dX3_add_15 rfl ?_
    refine q_getR hX gf_X3_9 rfl dX3_add_16 (at_KET ha0) (b := (a0 + 1)) (rt_KET_0 ha0) ?_
    refine q_iload_n hX dX3_add_19 rfl ?_
    refine q_iload_n hX dX3_add_20 rfl ?_
    obtain ⟨z3, h⟩ := h
    replace h := wr_e h
    refine q_iast hX dX3_add_21 (aa_KET_0 ha0) (inr_e z3) (inr_lt z3) (by decide) rfl ?_
    generalize up2 _ _ _ _ = I4 at h ⊢
    refine q_aload_n hX dX3_add_22 rfl ?_
    refine q_getR hX gf_X3_15 rfl dX3_add_23 (at_KET ha0) (b := (a0 + 2)) (rt_KET_1 ha0) ?_
    refine q_iload_n hX dX3_add_26 rfl ?_
    refine q_iconst hX dX3_add_27 (v := (nI 0)) (by decide) ?_
    replace h := wr_e h
    refine q_iast hX dX3_add_28 (aa_KET_1 ha0) (inr_e z3) (inr_lt z3) (by decide) rfl ?_
    generalize up2 _ _ _ _ = I5 at h ⊢
    refine q_aload_n hX dX3_add_29 rfl ?_
    refine q_getR hX gf_X3_18 rfl dX3_add_30 (at_KET ha0) (b := (a0 + 3)) (rt_KET_2 ha0) ?_
    refine q_iload_n hX dX3_add_33 rfl ?_
    refine q_bipush hX dX3_add_34 (v := (nI 40)) (by decide) ?_
    replace h := wr_e h
    refine q_iast hX dX3_add_36 (aa_KET_2 ha0) (inr_e z3) (inr_lt z3) (by decide) rfl ?_
    generalize up2 _ _ _ _ = I6 at h ⊢
    refine q_aload_n hX dX3_add_37 rfl ?_
    refine q_getR hX gf_X3_21 rfl dX3_add_38 (at_KET ha0) (b := (a0 + 4)) (rt_KET_3 ha0) ?_
    refine q_iload_n hX dX3_add_41 rfl ?_
    refine q_iconst hX dX3_add_42 (v := (nI 0)) (by decide) ?_
    replace h := wr_e h
    refine q_iast hX dX3_add_43 (aa_KET_3 ha0) (inr_e z3) (inr_lt z3) (by decide) rfl ?_
    generalize up2 _ _ _ _ = I7 at h ⊢
    refine q_aload_n hX dX3_add_44 rfl ?_
    refine q_getR hX gf_X3_24 rfl dX3_add_45 (at_KET ha0) (b := (a0 + 5)) (rt_KET_4 ha0) ?_
    refine q_iload_n hX dX3_add_48 rfl ?_
    refine q_iconst hX dX3_add_49 (v := (nI 0)) (by decide) ?_
    replace h := wr_e h
    refine q_zast hX dX3_add_50 (aa_KET_4 ha0) (inr_e z3) (inr_lt z3) (by decide) (narv_z (Or.inl rfl)) ?_
    generalize up2 _ _ _ _ = I8 at h ⊢
    refine q_aload_n hX dX3_add_51 rfl ?_
    refine q_dup hX dX3_add_52 rfl ?_
    refine q_getI hX gf_X3_28 rfl dX3_add_53 (at_KET ha0) ?_
    refine q_iconst hX dX3_add_56 (v := (nI 1)) (by decide) ?_
    refine q_iadd hX dX3_add_57 ?_
    replace h := wr_e h
    refine q_putI hX pf_X3_28 rfl dX3_add_58 (at_KET ha0) rfl rfl ?_
    generalize up2 _ _ _ _ = I9 at h ⊢
    refine q_iload_n hX dX3_add_61 rfl ?_
    exact q_iret hX hT dX3_add_62 h
  · replace h := ite_f q1 h
    refine q_iconst hX dX3_add_8 (v := (-1)) (by decide) ?_
    exact q_iret hX hT dX3_add_9 h
set_option maxRecDepth 100000 in
set_option maxHeartbeats 4000000 in
theorem w_X3_pourIn_b40 {X : XT} {D : DT} {l : Launch} {L : LT} {a0 : Nat} {a1 : Int32} {a2 : Int32} {K : Int32 → IT → Prop} (hX : OK X D cX3_pourIn "TeaHouse$Kettles" 5) (hT : RT X l D (some .int) (P2 (Pi L K)) 1 0 0) (ha0 : isKet a0)  : ∀ (v4 : Int32) (I : IT), f_X3_pourIn_b40 a0 a1 a2 K v4 I → J2 X D 5 0 0 I L 40 [.ref a0, .int a1, .retAddr 0, .retAddr 0, .int v4] [] := by
  have hR := hT.room
  intro v4 I h
  rw [f_X3_pourIn_b40] at h
  refine q_aload_n hX dX3_pourIn_40 rfl ?_
  refine q_getR hX gf_X3_15 rfl dX3_pourIn_41 (at_KET ha0) (b := (a0 + 2)) (rt_KET_1 ha0) ?_
  refine q_iload_n hX dX3_pourIn_44 rfl ?_
  refine q_iload hX dX3_pourIn_45 rfl ?_
  obtain ⟨z1, h⟩ := h
  replace h := wr_e h
  refine q_iast hX dX3_pourIn_47 (aa_KET_1 ha0) (inr_e z1) (inr_lt z1) (by decide) rfl ?_
  generalize up2 _ _ _ _ = I2 at h ⊢
  refine q_aload_n hX dX3_pourIn_48 rfl ?_
  refine q_getR hX gf_X3_18 rfl dX3_pourIn_49 (at_KET ha0) (b := (a0 + 3)) (rt_KET_2 ha0) ?_
  refine q_iload_n hX dX3_pourIn_52 rfl ?_
  refine q_iald hX dX3_pourIn_53 (aa_KET_2 ha0) (inr_e z1) (inr_lt z1) (by decide) ?_
  exact q_iret hX hT dX3_pourIn_54 h
set_option maxRecDepth 100000 in
set_option maxHeartbeats 4000000 in
theorem w_X3_pourIn {l : Launch} {D : DT} {L : LT} {a0 : Nat} {a1 : Int32} {a2 : Int32} {I : IT} {K : Int32 → IT → Prop} (ha0 : isKet a0) (h : f_X3_pourIn a0 a1 a2 I K) : Con2 l D m_X3_pourIn 1 [.ref a0, .int a1, .int a2] 0 0 I L (Pi L K) := by
  refine Con2.of (by decide +kernel) (by simp [Value.category]) (Nat.le_of_ble_eq_true rfl) (fun X hX hT => ?_)
  have hX : OK X D cX3_pourIn "TeaHouse$Kettles" 5 := hX
  have hT : RT X l D (some .int) (P2 (Pi L K)) 1 0 0 := hT
  have hR := hT.room
  change J2 X D 5 0 0 I L 0 [.ref a0, .int a1, .int a2, .retAddr 0, .retAddr 0] []
  rw [f_X3_pourIn] at h
  refine q_aload_n hX dX3_pourIn_0 rfl ?_
  refine q_getR hX gf_X3_15 rfl dX3_pourIn_1 (at_KET ha0) (b := (a0 + 2)) (rt_KET_1 ha0) ?_
  refine q_iload_n hX dX3_pourIn_4 rfl ?_
  obtain ⟨z1, h⟩ := h
  refine q_iald hX dX3_pourIn_5 (aa_KET_1 ha0) (inr_e z1) (inr_lt z1) (by decide) ?_
  replace h := bnd_e h
  refine q_istore_n hX dX3_pourIn_6 (by decide) (ls' := [_, _, _, _, _]) rfl ?_
  refine q_iload_n hX dX3_pourIn_7 rfl ?_
  refine q_iload_n hX dX3_pourIn_8 rfl ?_
  refine q_iadd hX dX3_pourIn_9 ?_
  replace h := bnd_e h
  refine q_istore hX dX3_pourIn_10 (by decide) (ls' := [_, _, _, _, _]) rfl ?_
  refine q_iload hX dX3_pourIn_12 rfl ?_
  refine q_if_le hX dX3_pourIn_14 (tgt := 40) (by decide) (fun q4 => ?_) (fun q4 => ?_)
  · replace h := ite_t q4 h
    exact q_dr (w_X3_pourIn_b40 hX hT ha0   _ _  h) ⟨Or.inl rfl, Or.inl rfl, Or.inr rfl, Or.inr rfl, Or.inl rfl, trivial⟩
  · replace h := ite_f q4 h
    refine q_aload_n hX dX3_pourIn_17 rfl ?_
    refine q_getR hX gf_X3_18 rfl dX3_pourIn_18 (at_KET ha0) (b := (a0 + 3)) (rt_KET_2 ha0) ?_
    refine q_iload_n hX dX3_pourIn_21 rfl ?_
    refine q_bipush hX dX3_pourIn_22 (v := (nI 40)) (by decide) ?_
    refine q_aload_n hX dX3_pourIn_24 rfl ?_
    refine q_getR hX gf_X3_18 rfl dX3_pourIn_25 (at_KET ha0) (b := (a0 + 3)) (rt_KET_2 ha0) ?_
    refine q_iload_n hX dX3_pourIn_28 rfl ?_
    refine q_iald hX dX3_pourIn_29 (aa_KET_2 ha0) (inr_e z1) (inr_lt z1) (by decide) ?_
    refine q_bipush hX dX3_pourIn_30 (v := (nI 40)) (by decide) ?_
    refine q_isub hX dX3_pourIn_32 ?_
    refine q_iload_n hX dX3_pourIn_33 rfl ?_
    refine q_imul hX dX3_pourIn_34 ?_
    refine q_iload hX dX3_pourIn_35 rfl ?_
    obtain ⟨z5, h⟩ := h
    refine q_idiv hX dX3_pourIn_37 z5 ?_
    refine q_iadd hX dX3_pourIn_38 ?_
    replace h := wr_e h
    refine q_iast hX dX3_pourIn_39 (aa_KET_2 ha0) (inr_e z1) (inr_lt z1) (by decide) rfl ?_
    generalize up2 _ _ _ _ = I6 at h ⊢
    exact q_dr (w_X3_pourIn_b40 hX hT ha0   _ _  h) ⟨Or.inl rfl, Or.inl rfl, Or.inr rfl, Or.inr rfl, Or.inl rfl, trivial⟩
set_option maxRecDepth 100000 in
set_option maxHeartbeats 4000000 in
theorem w_X3_turnBurner {l : Launch} {D : DT} {L : LT} {a0 : Nat} {a1 : Int32} {a2 : Int32} {I : IT} {K : Int32 → IT → Prop} (ha0 : isKet a0) (h : f_X3_turnBurner a0 a1 a2 I K) : Con2 l D m_X3_turnBurner 1 [.ref a0, .int a1, .int a2] 0 0 I L (Pi L K) := by
  refine Con2.of (by decide +kernel) (by simp [Value.category]) (Nat.le_of_ble_eq_true rfl) (fun X hX hT => ?_)
  have hX : OK X D cX3_turnBurner "TeaHouse$Kettles" 4 := hX
  have hT : RT X l D (some .int) (P2 (Pi L K)) 1 0 0 := hT
  have hR := hT.room
  change J2 X D 4 0 0 I L 0 [.ref a0, .int a1, .int a2, .retAddr 0] []
  rw [f_X3_turnBurner] at h
  refine q_aload_n hX dX3_turnBurner_0 rfl ?_
  refine q_getR hX gf_X3_21 rfl dX3_turnBurner_1 (at_KET ha0) (b := (a0 + 4)) (rt_KET_3 ha0) ?_
  refine q_iload_n hX dX3_turnBurner_4 rfl ?_
  obtain ⟨z1, h⟩ := h
  refine q_iald hX dX3_turnBurner_5 (aa_KET_3 ha0) (inr_e z1) (inr_lt z1) (by decide) ?_
  replace h := bnd_e h
  refine q_istore_n hX dX3_turnBurner_6 (by decide) (ls' := [_, _, _, _]) rfl ?_
  refine q_aload_n hX dX3_turnBurner_7 rfl ?_
  refine q_getR hX gf_X3_21 rfl dX3_turnBurner_8 (at_KET ha0) (b := (a0 + 4)) (rt_KET_3 ha0) ?_
  refine q_iload_n hX dX3_turnBurner_11 rfl ?_
  refine q_iload_n hX dX3_turnBurner_12 rfl ?_
  replace h := wr_e h
  refine q_iast hX dX3_turnBurner_13 (aa_KET_3 ha0) (inr_e z1) (inr_lt z1) (by decide) rfl ?_
  generalize up2 _ _ _ _ = I3 at h ⊢
  refine q_iload_n hX dX3_turnBurner_14 rfl ?_
  exact q_iret hX hT dX3_turnBurner_15 h
set_option maxRecDepth 100000 in
set_option maxHeartbeats 4000000 in
theorem w_X4_enterNight {l : Launch} {D : DT} {L : LT} {a0 : Nat} {I : IT} {K : Int32 → IT → Prop} (ha0 : isLed a0) (h : f_X4_enterNight a0 I K) : Con2 l D m_X4_enterNight 1 [.ref a0] 0 0 I L (Pi L K) := by
  refine Con2.of (by decide +kernel) (by simp [Value.category]) (Nat.le_of_ble_eq_true rfl) (fun X hX hT => ?_)
  have hX : OK X D cX4_enterNight "TeaHouse$Ledger" 2 := hX
  have hT : RT X l D (some .int) (P2 (Pi L K)) 1 0 0 := hT
  have hR := hT.room
  change J2 X D 2 0 0 I L 0 [.ref a0, .retAddr 0] []
  rw [f_X4_enterNight] at h
  refine q_aload_n hX dX4_enterNight_0 rfl ?_
  refine q_getI hX gf_X4_18 rfl dX4_enterNight_1 (at_LED ha0) ?_
  refine q_bipush hX dX4_enterNight_4 (v := (nI 14)) (by decide) ?_
  refine q_icmp_lt hX dX4_enterNight_6 (tgt := 11) (by decide) (fun q1 => ?_) (fun q1 => ?_)
  · replace h := ite_t q1 h
    refine q_aload_n hX dX4_enterNight_11 rfl ?_
    refine q_getI hX gf_X4_22 rfl dX4_enterNight_12 (at_LED ha0) ?_
    replace h := bnd_e h
    refine q_istore_n hX dX4_enterNight_15 (by decide) (ls' := [_, _]) rfl ?_
    refine q_aload_n hX dX4_enterNight_16 rfl ?_
    refine q_getR hX gf_X4_9 rfl dX4_enterNight_17 (at_LED ha0) (b := (a0 + 1)) (rt_LED_0 ha0) ?_
    refine q_aload_n hX dX4_enterNight_20 rfl ?_
    refine q_getI hX gf_X4_18 rfl dX4_enterNight_21 (at_LED ha0) ?_
    refine q_iload_n hX dX4_enterNight_24 rfl ?_
    obtain ⟨z3, h⟩ := h
    replace h := wr_e h
    refine q_iast hX dX4_enterNight_25 (aa_LED_0 ha0) (inr_e z3) (inr_lt z3) (by decide) rfl ?_
    generalize up2 _ _ _ _ = I4 at h ⊢
    refine q_aload_n hX dX4_enterNight_26 rfl ?_
    refine q_getR hX gf_X4_15 rfl dX4_enterNight_27 (at_LED ha0) (b := (a0 + 2)) (rt_LED_1 ha0) ?_
    refine q_aload_n hX dX4_enterNight_30 rfl ?_
    refine q_getI hX gf_X4_18 rfl dX4_enterNight_31 (at_LED ha0) ?_
    refine q_iconst hX dX4_enterNight_34 (v := (nI 1)) (by decide) ?_
    refine q_iadd hX dX4_enterNight_35 ?_
    refine q_aload_n hX dX4_enterNight_36 rfl ?_
    refine q_getR hX gf_X4_15 rfl dX4_enterNight_37 (at_LED ha0) (b := (a0 + 2)) (rt_LED_1 ha0) ?_
    refine q_aload_n hX dX4_enterNight_40 rfl ?_
    refine q_getI hX gf_X4_18 rfl dX4_enterNight_41 (at_LED ha0) ?_
    obtain ⟨z5, h⟩ := h
    refine q_iald hX dX4_enterNight_44 (aa_LED_1 ha0) (inr_e z5) (inr_lt z5) (by decide) ?_
    refine q_iload_n hX dX4_enterNight_45 rfl ?_
    refine q_iadd hX dX4_enterNight_46 ?_
    obtain ⟨z6, h⟩ := h
    replace h := wr_e h
    refine q_iast hX dX4_enterNight_47 (aa_LED_1 ha0) (inr_e z6) (inr_lt z6) (by decide) rfl ?_
    generalize up2 _ _ _ _ = I7 at h ⊢
    refine q_aload_n hX dX4_enterNight_48 rfl ?_
    refine q_dup hX dX4_enterNight_49 rfl ?_
    refine q_getI hX gf_X4_18 rfl dX4_enterNight_50 (at_LED ha0) ?_
    refine q_iconst hX dX4_enterNight_53 (v := (nI 1)) (by decide) ?_
    refine q_iadd hX dX4_enterNight_54 ?_
    replace h := wr_e h
    refine q_putI hX pf_X4_18 rfl dX4_enterNight_55 (at_LED ha0) rfl rfl ?_
    generalize up2 _ _ _ _ = I8 at h ⊢
    refine q_aload_n hX dX4_enterNight_58 rfl ?_
    refine q_iconst hX dX4_enterNight_59 (v := (nI 0)) (by decide) ?_
    replace h := wr_e h
    refine q_putI hX pf_X4_22 rfl dX4_enterNight_60 (at_LED ha0) rfl rfl ?_
    generalize up2 _ _ _ _ = I9 at h ⊢
    refine q_iload_n hX dX4_enterNight_63 rfl ?_
    exact q_iret hX hT dX4_enterNight_64 h
  · replace h := ite_f q1 h
    refine q_iconst hX dX4_enterNight_9 (v := (-1)) (by decide) ?_
    exact q_iret hX hT dX4_enterNight_10 h
set_option maxRecDepth 100000 in
set_option maxHeartbeats 4000000 in
theorem w_X5_add_b17 {X : XT} {D : DT} {l : Launch} {L : LT} {a0 : Nat} {a1 : Int32} {a2 : Int32} {a3 : Int32} {a4 : Int32} {K : Int32 → IT → Prop} {X53 : Int32 → IT → Prop} (hX : OK X D cX5_add "TeaHouse$Orders" 6) (hT : RT X l D (some .int) (P2 (Pi L K)) 2 0 0) (ha0 : isOrd a0) (hx53 : ∀ (v5 : Int32) (I : IT), X53 v5 I → J2 X D 6 0 0 I L 53 [.ref a0, .int a1, .int a2, .int a3, .int a4, .int v5] []) : ∀ (n : Nat), ∀ (v5 : Int32) (I : IT), f_X5_add_b17 a0 a1 a2 a3 a4 X53 K n v5 I → J2 X D 6 0 0 I L 17 [.ref a0, .int a1, .int a2, .int a3, .int a4, .int v5] [] := by
  have hR := hT.room
  intro n
  induction n with
  | zero => intro v5 I h; exact False.elim h
  | succ n ih =>
    intro v5 I h
    rw [f_X5_add_b17] at h
    refine q_iload hX dX5_add_17 rfl ?_
    refine q_if_le hX dX5_add_19 (tgt := 53) (by decide) (fun q1 => ?_) (fun q1 => ?_)
    · replace h := ite_t q1 h
      exact q_dr (hx53 _ _  h) ⟨Or.inl rfl, Or.inl rfl, Or.inl rfl, Or.inl rfl, Or.inl rfl, Or.inl rfl, trivial⟩
    · replace h := ite_f q1 h
      refine q_aload_n hX dX5_add_22 rfl ?_
      refine q_getR hX gf_X5_24 rfl dX5_add_23 (at_ORD ha0) (b := (a0 + 5)) (rt_ORD_4 ha0) ?_
      refine q_iload hX dX5_add_26 rfl ?_
      refine q_iconst hX dX5_add_28 (v := (nI 1)) (by decide) ?_
      refine q_isub hX dX5_add_29 ?_
      obtain ⟨z2, h⟩ := h
      refine q_iald hX dX5_add_30 (aa_ORD_4 ha0) (inr_e z2) (inr_lt z2) (by decide) ?_
      refine q_iload hX dX5_add_31 rfl ?_
      refine q_icmp_ge hX dX5_add_33 (tgt := 53) (by decide) (fun q3 => ?_) (fun q3 => ?_)
      · replace h := ite_t q3 h
        exact q_dr (hx53 _ _  h) ⟨Or.inl rfl, Or.inl rfl, Or.inl rfl, Or.inl rfl, Or.inl rfl, Or.inl rfl, trivial⟩
      · replace h := ite_f q3 h
        refine q_aload_n hX dX5_add_36 rfl ?_
        refine q_aload_n hX dX5_add_37 rfl ?_
        refine q_iload hX dX5_add_38 rfl ?_
        refine q_iconst hX dX5_add_40 (v := (nI 1)) (by decide) ?_
        refine q_isub hX dX5_add_41 ?_
        refine q_iload hX dX5_add_42 rfl ?_
        refine q_V_v hX hR (w_X5_copyOrder ha0 ha0 h) lk_X5_34 (rc2_ORD ha0) dX5_add_44 rfl rfl (Nat.le_of_ble_eq_true rfl) (by omega) (by omega) (by omega) ?_
        intro I4 h
        replace h := bnd_e h
        refine q_iinc hX dX5_add_47 (by decide) rfl (v := _ + (-1)) (ls' := [_, _, _, _, _, _]) (iinc_m _ (by decide)) rfl ?_
        refine q_goto hX dX5_add_50 (tgt := 17) (by decide) ?_
        exact q_dr (ih _ _  h) ⟨Or.inl rfl, Or.inl rfl, Or.inl rfl, Or.inl rfl, Or.inl rfl, Or.inl rfl, trivial⟩
set_option maxRecDepth 100000 in
set_option maxHeartbeats 4000000 in
theorem w_X5_add_b53 {X : XT} {D : DT} {l : Launch} {L : LT} {a0 : Nat} {a1 : Int32} {a2 : Int32} {a3 : Int32} {a4 : Int32} {K : Int32 → IT → Prop} (hX : OK X D cX5_add "TeaHouse$Orders" 6) (hT : RT X l D (some .int) (P2 (Pi L K)) 2 0 0) (ha0 : isOrd a0)  : ∀ (v5 : Int32) (I : IT), f_X5_add_b53 a0 a1 a2 a3 a4 K v5 I → J2 X D 6 0 0 I L 53 [.ref a0, .int a1, .int a2, .int a3, .int a4, .int v5] [] := by
  have hR := hT.room
  intro v5 I h
  rw [f_X5_add_b53] at h
  refine q_aload_n hX dX5_add_53 rfl ?_
  refine q_getR hX gf_X5_9 rfl dX5_add_54 (at_ORD ha0) (b := (a0 + 1)) (rt_ORD_0 ha0) ?_
  refine q_iload hX dX5_add_57 rfl ?_
  refine q_aload_n hX dX5_add_59 rfl ?_
  refine q_getI hX gf_X5_31 rfl dX5_add_60 (at_ORD ha0) ?_
  obtain ⟨z1, h⟩ := h
  replace h := wr_e h
  refine q_iast hX dX5_add_63 (aa_ORD_0 ha0) (inr_e z1) (inr_lt z1) (by decide) rfl ?_
  generalize up2 _ _ _ _ = I2 at h ⊢
  refine q_aload_n hX dX5_add_64 rfl ?_
  refine q_getR hX gf_X5_15 rfl dX5_add_65 (at_ORD ha0) (b := (a0 + 2)) (rt_ORD_1 ha0) ?_
  refine q_iload hX dX5_add_68 rfl ?_
  refine q_iload_n hX dX5_add_70 rfl ?_
  replace h := wr_e h
  refine q_iast hX dX5_add_71 (aa_ORD_1 ha0) (inr_e z1) (inr_lt z1) (by decide) rfl ?_
  generalize up2 _ _ _ _ = I3 at h ⊢
  refine q_aload_n hX dX5_add_72 rfl ?_
  refine q_getR hX gf_X5_18 rfl dX5_add_73 (at_ORD ha0) (b := (a0 + 3)) (rt_ORD_2 ha0) ?_
  refine q_iload hX dX5_add_76 rfl ?_
  refine q_iload_n hX dX5_add_78 rfl ?_
  replace h := wr_e h
  refine q_iast hX dX5_add_79 (aa_ORD_2 ha0) (inr_e z1) (inr_lt z1) (by decide) rfl ?_
  generalize up2 _ _ _ _ = I4 at h ⊢
  refine q_aload_n hX dX5_add_80 rfl ?_
  refine q_getR hX gf_X5_21 rfl dX5_add_81 (at_ORD ha0) (b := (a0 + 4)) (rt_ORD_3 ha0) ?_
  refine q_iload hX dX5_add_84 rfl ?_
  refine q_iload_n hX dX5_add_86 rfl ?_
  replace h := wr_e h
  refine q_iast hX dX5_add_87 (aa_ORD_3 ha0) (inr_e z1) (inr_lt z1) (by decide) rfl ?_
  generalize up2 _ _ _ _ = I5 at h ⊢
  refine q_aload_n hX dX5_add_88 rfl ?_
  refine q_getR hX gf_X5_24 rfl dX5_add_89 (at_ORD ha0) (b := (a0 + 5)) (rt_ORD_4 ha0) ?_
  refine q_iload hX dX5_add_92 rfl ?_
  refine q_iload hX dX5_add_94 rfl ?_
  replace h := wr_e h
  refine q_iast hX dX5_add_96 (aa_ORD_4 ha0) (inr_e z1) (inr_lt z1) (by decide) rfl ?_
  generalize up2 _ _ _ _ = I6 at h ⊢
  refine q_aload_n hX dX5_add_97 rfl ?_
  refine q_dup hX dX5_add_98 rfl ?_
  refine q_getI hX gf_X5_27 rfl dX5_add_99 (at_ORD ha0) ?_
  refine q_iconst hX dX5_add_102 (v := (nI 1)) (by decide) ?_
  refine q_iadd hX dX5_add_103 ?_
  replace h := wr_e h
  refine q_putI hX pf_X5_27 rfl dX5_add_104 (at_ORD ha0) rfl rfl ?_
  generalize up2 _ _ _ _ = I7 at h ⊢
  refine q_aload_n hX dX5_add_107 rfl ?_
  refine q_dup hX dX5_add_108 rfl ?_
  refine q_getI hX gf_X5_31 rfl dX5_add_109 (at_ORD ha0) ?_
  refine q_iconst hX dX5_add_112 (v := (nI 1)) (by decide) ?_
  refine q_iadd hX dX5_add_113 ?_
  replace h := wr_e h
  refine q_putI hX pf_X5_31 rfl dX5_add_114 (at_ORD ha0) rfl rfl ?_
  generalize up2 _ _ _ _ = I8 at h ⊢
  refine q_aload_n hX dX5_add_117 rfl ?_
  refine q_getR hX gf_X5_9 rfl dX5_add_118 (at_ORD ha0) (b := (a0 + 1)) (rt_ORD_0 ha0) ?_
  refine q_iload hX dX5_add_121 rfl ?_
  refine q_iald hX dX5_add_123 (aa_ORD_0 ha0) (inr_e z1) (inr_lt z1) (by decide) ?_
  exact q_iret hX hT dX5_add_124 h
set_option maxRecDepth 100000 in
set_option maxHeartbeats 4000000 in
theorem w_X5_add {l : Launch} {D : DT} {L : LT} {a0 : Nat} {a1 : Int32} {a2 : Int32} {a3 : Int32} {a4 : Int32} {I : IT} {K : Int32 → IT → Prop} (ha0 : isOrd a0) (h : f_X5_add a0 a1 a2 a3 a4 I K) : Con2 l D m_X5_add 2 [.ref a0, .int a1, .int a2, .int a3, .int a4] 0 0 I L (Pi L K) := by
  refine Con2.of (by decide +kernel) (by simp [Value.category]) (Nat.le_of_ble_eq_true rfl) (fun X hX hT => ?_)
  have hX : OK X D cX5_add "TeaHouse$Orders" 6 := hX
  have hT : RT X l D (some .int) (P2 (Pi L K)) 2 0 0 := hT
  have hR := hT.room
  change J2 X D 6 0 0 I L 0 [.ref a0, .int a1, .int a2, .int a3, .int a4, .retAddr 0] []
  rw [f_X5_add] at h
  refine q_aload_n hX dX5_add_0 rfl ?_
  refine q_getI hX gf_X5_27 rfl dX5_add_1 (at_ORD ha0) ?_
  refine q_bipush hX dX5_add_4 (v := (nI 10)) (by decide) ?_
  refine q_icmp_lt hX dX5_add_6 (tgt := 11) (by decide) (fun q1 => ?_) (fun q1 => ?_)
  · replace h := ite_t q1 h
    refine q_aload_n hX dX5_add_11 rfl ?_
    refine q_getI hX gf_X5_27 rfl dX5_add_12 (at_ORD ha0) ?_
    replace h := bnd_e h
    refine q_istore hX dX5_add_15 (by decide) (ls' := [_, _, _, _, _, _]) rfl ?_
    exact q_dr (w_X5_add_b17 hX hT ha0 (fun _ _ h => w_X5_add_b53 hX hT ha0   _ _  h) _  _ _  h) ⟨Or.inl rfl, Or.inl rfl, Or.inl rfl, Or.inl rfl, Or.inl rfl, Or.inl rfl, trivial⟩
  · replace h := ite_f q1 h
    refine q_iconst hX dX5_add_9 (v := (-1)) (by decide) ?_
    exact q_iret hX hT dX5_add_10 h
set_option maxRecDepth 100000 in
set_option maxHeartbeats 4000000 in
theorem w_X1_perform_b216 {X : XT} {D : DT} {l : Launch} {L : LT} {a0 : Nat} {a1 : Nat} {a2 : Int32} {a3 : Int32} {a4 : Int32} {a5 : Int32} {K : Int32 → IT → Prop} (hX : OK X D cX1_perform "TeaHouse$House" 6) (hT : RT X l D (some .int) (P2 (Pi L K)) 5 0 0) (ha0 : isHou a0) (ha1 : isVer a1)  : ∀ (I : IT), f_X1_perform_b216 a0 a1 a2 a3 a4 a5 K I → J2 X D 6 0 0 I L 216 [.ref a0, .retAddr 0, .retAddr 0, .retAddr 0, .retAddr 0, .retAddr 0] [] := by
  have hR := hT.room
  intro I h
  rw [f_X1_perform_b216] at h
  refine q_aload_n hX dX1_perform_216 rfl ?_
  refine q_getR hX gf_X1_28 rfl dX1_perform_217 (at_HOU ha0) (b := (a0 + 13)) (rt_HOU_2 ha0) ?_
  refine q_V_i hX hR (w_X4_enterNight (led_hou2 ha0) h) lk_X1_166 (rc2_LED (led_hou2 ha0)) dX1_perform_220 rfl rfl (Nat.le_of_ble_eq_true rfl) (by omega) (by omega) (by omega) ?_
  intro x1 I2 h
  exact q_iret hX hT dX1_perform_223 h
set_option maxRecDepth 100000 in
set_option maxHeartbeats 4000000 in
theorem w_X1_perform_b212 {X : XT} {D : DT} {l : Launch} {L : LT} {a0 : Nat} {a1 : Nat} {a2 : Int32} {a3 : Int32} {a4 : Int32} {a5 : Int32} {K : Int32 → IT → Prop} (hX : OK X D cX1_perform "TeaHouse$House" 6) (hT : RT X l D (some .int) (P2 (Pi L K)) 5 0 0) (ha0 : isHou a0) (ha1 : isVer a1)  : ∀ (s1 : Int32) (I : IT), isZ s1 → isC s1 → f_X1_perform_b212 a0 a1 a2 a3 a4 a5 K s1 I → J2 X D 6 0 0 I L 212 [.retAddr 0, .retAddr 0, .retAddr 0, .retAddr 0, .retAddr 0, .retAddr 0] [.int s1, .ref a0] := by
  have hR := hT.room
  intro s1 I hzs1 hcs1 h
  rw [f_X1_perform_b212] at h
  refine q_V_i hX hR (w_X1_exchangeAttendant ha0 hzs1 h) lk_X1_162 (rc2_HOU ha0) dX1_perform_212 rfl rfl (Nat.le_of_ble_eq_true rfl) (by omega) (by omega) (by omega) ?_
  intro x1 I2 h
  exact q_iret hX hT dX1_perform_215 h
set_option maxRecDepth 100000 in
set_option maxHeartbeats 4000000 in
theorem w_X1_perform {l : Launch} {D : DT} {L : LT} {a0 : Nat} {a1 : Nat} {a2 : Int32} {a3 : Int32} {a4 : Int32} {a5 : Int32} {I : IT} {K : Int32 → IT → Prop} (ha0 : isHou a0) (ha1 : isVer a1) (h : f_X1_perform a0 a1 a2 a3 a4 a5 I K) : Con2 l D m_X1_perform 5 [.ref a0, .ref a1, .int a2, .int a3, .int a4, .int a5] 0 0 I L (Pi L K) := by
  refine Con2.of (by decide +kernel) (by simp [Value.category]) (Nat.le_of_ble_eq_true rfl) (fun X hX hT => ?_)
  have hX : OK X D cX1_perform "TeaHouse$House" 6 := hX
  have hT : RT X l D (some .int) (P2 (Pi L K)) 5 0 0 := hT
  have hR := hT.room
  change J2 X D 6 0 0 I L 0 [.ref a0, .ref a1, .int a2, .int a3, .int a4, .int a5] []
  rw [f_X1_perform] at h
  refine q_gets hX (q := ("TeaHouse$1", "$SwitchMap$TeaHouse$Verb", "[I", .ref 1000031)) (by decide +kernel) gs_X1_77 dX1_perform_0 ?_
  refine q_aload_n hX dX1_perform_3 rfl ?_
  refine q_ord hX hR lk_ord dX1_perform_4 ha1 (by omega) (by omega) (by omega) ?_
  obtain ⟨z1, h⟩ := h
  refine q_swm hX dX1_perform_7 z1 ?_
  refine q_cas (k := (nI 1)) (fun q25 => ?_) (fun q25 => ?_)
  · replace h := ite_t q25 h
    refine q_tableInE hX dX1_perform_8 q25 (by decide +kernel) (by decide +kernel) (off := 68) (by decide +kernel) (tgt := 76) (by decide) ?_
    refine q_aload_n hX dX1_perform_76 rfl ?_
    refine q_getR hX gf_X1_12 rfl dX1_perform_77 (at_HOU ha0) (b := (a0 + 1)) (rt_HOU_0 ha0) ?_
    refine q_iload_n hX dX1_perform_80 rfl ?_
    refine q_iconst hX dX1_perform_81 (v := (nI 2)) (by decide) ?_
    refine q_imul hX dX1_perform_82 ?_
    refine q_V_i hX hR (w_X3_add (ket_hou0 ha0) h) lk_X1_130 (rc2_KET (ket_hou0 ha0)) dX1_perform_83 rfl rfl (Nat.le_of_ble_eq_true rfl) (by omega) (by omega) (by omega) ?_
    intro x2 I3 h
    exact q_iret hX hT dX1_perform_86 h
  replace h := ite_f q25 h
  refine q_cas (k := (nI 2)) (fun q26 => ?_) (fun q26 => ?_)
  · replace h := ite_t q26 h
    refine q_tableInE hX dX1_perform_8 q26 (by decide +kernel) (by decide +kernel) (off := 79) (by decide +kernel) (tgt := 87) (by decide) ?_
    refine q_aload_n hX dX1_perform_87 rfl ?_
    refine q_dup hX dX1_perform_88 rfl ?_
    refine q_getI hX gf_X1_45 rfl dX1_perform_89 (at_HOU ha0) ?_
    refine q_iload_n hX dX1_perform_92 rfl ?_
    refine q_iconst hX dX1_perform_93 (v := (nI 2)) (by decide) ?_
    refine q_imul hX dX1_perform_94 ?_
    refine q_iadd hX dX1_perform_95 ?_
    replace h := wr_e h
    refine q_putI hX pf_X1_45 rfl dX1_perform_96 (at_HOU ha0) rfl rfl ?_
    generalize up2 _ _ _ _ = I4 at h ⊢
    refine q_aload_n hX dX1_perform_99 rfl ?_
    refine q_getR hX gf_X1_12 rfl dX1_perform_100 (at_HOU ha0) (b := (a0 + 1)) (rt_HOU_0 ha0) ?_
    refine q_iload_n hX dX1_perform_103 rfl ?_
    refine q_iload_n hX dX1_perform_104 rfl ?_
    refine q_iconst hX dX1_perform_105 (v := (nI 2)) (by decide) ?_
    refine q_imul hX dX1_perform_106 ?_
    refine q_V_i hX hR (w_X3_pourIn (ket_hou0 ha0) h) lk_X1_133 (rc2_KET (ket_hou0 ha0)) dX1_perform_107 rfl rfl (Nat.le_of_ble_eq_true rfl) (by omega) (by omega) (by omega) ?_
    intro x5 I6 h
    exact q_iret hX hT dX1_perform_110 h
  replace h := ite_f q26 h
  refine q_cas (k := (nI 3)) (fun q27 => ?_) (fun q27 => ?_)
  · replace h := ite_t q27 h
    refine q_tableInE hX dX1_perform_8 q27 (by decide +kernel) (by decide +kernel) (off := 103) (by decide +kernel) (tgt := 111) (by decide) ?_
    refine q_aload_n hX dX1_perform_111 rfl ?_
    refine q_getR hX gf_X1_12 rfl dX1_perform_112 (at_HOU ha0) (b := (a0 + 1)) (rt_HOU_0 ha0) ?_
    refine q_iload_n hX dX1_perform_115 rfl ?_
    refine q_iload_n hX dX1_perform_116 rfl ?_
    refine q_V_i hX hR (w_X3_turnBurner (ket_hou0 ha0) h) lk_X1_137 (rc2_KET (ket_hou0 ha0)) dX1_perform_117 rfl rfl (Nat.le_of_ble_eq_true rfl) (by omega) (by omega) (by omega) ?_
    intro x7 I8 h
    exact q_iret hX hT dX1_perform_120 h
  replace h := ite_f q27 h
  refine q_cas (k := (nI 4)) (fun q28 => ?_) (fun q28 => ?_)
  · replace h := ite_t q28 h
    refine q_tableInE hX dX1_perform_8 q28 (by decide +kernel) (by decide +kernel) (off := 113) (by decide +kernel) (tgt := 121) (by decide) ?_
    refine q_aload_n hX dX1_perform_121 rfl ?_
    refine q_getR hX gf_X1_21 rfl dX1_perform_122 (at_HOU ha0) (b := (a0 + 7)) (rt_HOU_1 ha0) ?_
    refine q_iload_n hX dX1_perform_125 rfl ?_
    refine q_iload_n hX dX1_perform_126 rfl ?_
    refine q_iload hX dX1_perform_127 rfl ?_
    refine q_iload hX dX1_perform_129 rfl ?_
    refine q_V_i hX hR (w_X5_add (ord_hou1 ha0) h) lk_X1_140 (rc2_ORD (ord_hou1 ha0)) dX1_perform_131 rfl rfl (Nat.le_of_ble_eq_true rfl) (by omega) (by omega) (by omega) ?_
    intro x9 I10 h
    exact q_iret hX hT dX1_perform_134 h
  replace h := ite_f q28 h
  refine q_cas (k := (nI 5)) (fun q29 => ?_) (fun q29 => ?_)
  · replace h := ite_t q29 h
    refine q_tableInE hX dX1_perform_8 q29 (by decide +kernel) (by decide +kernel) (off := 127) (by decide +kernel) (tgt := 135) (by decide) ?_
    refine q_aload_n hX dX1_perform_135 rfl ?_
    refine q_getR hX gf_X1_21 rfl dX1_perform_136 (at_HOU ha0) (b := (a0 + 7)) (rt_HOU_1 ha0) ?_
    refine q_aload_n hX dX1_perform_139 rfl ?_
    refine q_getR hX gf_X1_21 rfl dX1_perform_140 (at_HOU ha0) (b := (a0 + 7)) (rt_HOU_1 ha0) ?_
    refine q_iload_n hX dX1_perform_143 rfl ?_
    refine q_V_ip hX hR (w_X5_find (ord_hou1 ha0) h) lk_X1_115 (rc2_ORD (ord_hou1 ha0)) dX1_perform_144 rfl rfl (Nat.le_of_ble_eq_true rfl) (by omega) (by omega) (by omega) ?_
    intro x11 h
    refine q_V_v hX hR (w_X5_remove (ord_hou1 ha0) h) lk_X1_143 (rc2_ORD (ord_hou1 ha0)) dX1_perform_147 rfl rfl (Nat.le_of_ble_eq_true rfl) (by omega) (by omega) (by omega) ?_
    intro I12 h
    refine q_aload_n hX dX1_perform_150 rfl ?_
    refine q_getR hX gf_X1_21 rfl dX1_perform_151 (at_HOU ha0) (b := (a0 + 7)) (rt_HOU_1 ha0) ?_
    refine q_getI hX gf_X1_114 rfl dX1_perform_154 (at_ORD (ord_hou1 ha0)) ?_
    exact q_iret hX hT dX1_perform_157 h
  replace h := ite_f q29 h
  refine q_cas (k := (nI 6)) (fun q30 => ?_) (fun q30 => ?_)
  · replace h := ite_t q30 h
    refine q_tableInE hX dX1_perform_8 q30 (by decide +kernel) (by decide +kernel) (off := 150) (by decide +kernel) (tgt := 158) (by decide) ?_
    refine q_aload_n hX dX1_perform_158 rfl ?_
    refine q_V_i hX hR (w_X1_serveFirst ha0 h) lk_X1_147 (rc2_HOU ha0) dX1_perform_159 rfl rfl (Nat.le_of_ble_eq_true rfl) (by omega) (by omega) (by omega) ?_
    intro x13 I14 h
    exact q_iret hX hT dX1_perform_162 h
  replace h := ite_f q30 h
  refine q_cas (k := (nI 7)) (fun q31 => ?_) (fun q31 => ?_)
  · replace h := ite_t q31 h
    refine q_tableInE hX dX1_perform_8 q31 (by decide +kernel) (by decide +kernel) (off := 155) (by decide +kernel) (tgt := 163) (by decide) ?_
    refine q_aload_n hX dX1_perform_163 rfl ?_
    refine q_dup hX dX1_perform_164 rfl ?_
    refine q_getI hX gf_X1_32 rfl dX1_perform_165 (at_HOU ha0) ?_
    refine q_iload_n hX dX1_perform_168 rfl ?_
    refine q_iadd hX dX1_perform_169 ?_
    replace h := wr_e h
    refine q_putI hX pf_X1_32 rfl dX1_perform_170 (at_HOU ha0) rfl rfl ?_
    generalize up2 _ _ _ _ = I15 at h ⊢
    refine q_aload_n hX dX1_perform_173 rfl ?_
    refine q_getI hX gf_X1_32 rfl dX1_perform_174 (at_HOU ha0) ?_
    exact q_iret hX hT dX1_perform_177 h
  replace h := ite_f q31 h
  refine q_cas (k := (nI 8)) (fun q32 => ?_) (fun q32 => ?_)
  · replace h := ite_t q32 h
    refine q_tableInE hX dX1_perform_8 q32 (by decide +kernel) (by decide +kernel) (off := 170) (by decide +kernel) (tgt := 178) (by decide) ?_
    refine q_aload_n hX dX1_perform_178 rfl ?_
    refine q_iload_n hX dX1_perform_179 rfl ?_
    refine q_V_i hX hR (w_X1_sell ha0 h) lk_X1_150 (rc2_HOU ha0) dX1_perform_180 rfl rfl (Nat.le_of_ble_eq_true rfl) (by omega) (by omega) (by omega) ?_
    intro x16 I17 h
    exact q_iret hX hT dX1_perform_183 h
  replace h := ite_f q32 h
  refine q_cas (k := (nI 9)) (fun q33 => ?_) (fun q33 => ?_)
  · replace h := ite_t q33 h
    refine q_tableInE hX dX1_perform_8 q33 (by decide +kernel) (by decide +kernel) (off := 176) (by decide +kernel) (tgt := 184) (by decide) ?_
    refine q_aload_n hX dX1_perform_184 rfl ?_
    refine q_iload_n hX dX1_perform_185 rfl ?_
    refine q_V_i hX hR (w_X1_passMinutes ha0 h) lk_X1_153 (rc2_HOU ha0) dX1_perform_186 rfl rfl (Nat.le_of_ble_eq_true rfl) (by omega) (by omega) (by omega) ?_
    intro x18 I19 h
    exact q_iret hX hT dX1_perform_189 h
  replace h := ite_f q33 h
  refine q_cas (k := (nI 10)) (fun q34 => ?_) (fun q34 => ?_)
  · replace h := ite_t q34 h
    refine q_tableInE hX dX1_perform_8 q34 (by decide +kernel) (by decide +kernel) (off := 182) (by decide +kernel) (tgt := 190) (by decide) ?_
    refine q_aload_n hX dX1_perform_190 rfl ?_
    refine q_iload_n hX dX1_perform_191 rfl ?_
    refine q_V_i hX hR (w_X1_exchangeCupPrice ha0 h) lk_X1_156 (rc2_HOU ha0) dX1_perform_192 rfl rfl (Nat.le_of_ble_eq_true rfl) (by omega) (by omega) (by omega) ?_
    intro x20 I21 h
    exact q_iret hX hT dX1_perform_195 h
  replace h := ite_f q34 h
  refine q_cas (k := (nI 11)) (fun q35 => ?_) (fun q35 => ?_)
  · replace h := ite_t q35 h
    refine q_tableInE hX dX1_perform_8 q35 (by decide +kernel) (by decide +kernel) (off := 188) (by decide +kernel) (tgt := 196) (by decide) ?_
    refine q_aload_n hX dX1_perform_196 rfl ?_
    refine q_iload_n hX dX1_perform_197 rfl ?_
    refine q_V_i hX hR (w_X1_exchangeSteamPrice ha0 h) lk_X1_159 (rc2_HOU ha0) dX1_perform_198 rfl rfl (Nat.le_of_ble_eq_true rfl) (by omega) (by omega) (by omega) ?_
    intro x22 I23 h
    exact q_iret hX hT dX1_perform_201 h
  replace h := ite_f q35 h
  refine q_cas (k := (nI 12)) (fun q36 => ?_) (fun q36 => ?_)
  · replace h := ite_t q36 h
    refine q_tableInE hX dX1_perform_8 q36 (by decide +kernel) (by decide +kernel) (off := 208) (by decide +kernel) (tgt := 216) (by decide) ?_
    exact q_dr (w_X1_perform_b216 hX hT ha0 ha1   _  h) ⟨Or.inl rfl, Or.inr rfl, Or.inr rfl, Or.inr rfl, Or.inr rfl, Or.inr rfl, trivial⟩
  replace h := ite_f q36 h
  refine q_cas (k := (nI 13)) (fun q37 => ?_) (fun q37 => ?_)
  · replace h := ite_t q37 h
    refine q_tableInE hX dX1_perform_8 q37 (by decide +kernel) (by decide +kernel) (off := 194) (by decide +kernel) (tgt := 202) (by decide) ?_
    refine q_aload_n hX dX1_perform_202 rfl ?_
    refine q_iload_n hX dX1_perform_203 rfl ?_
    refine q_if_eq hX dX1_perform_204 (tgt := 211) (by decide) (fun q24 => ?_) (fun q24 => ?_)
    · replace h := ite_t q24 h
      refine q_iconst hX dX1_perform_211 (v := (nI 0)) (by decide) ?_
      exact q_dr (w_X1_perform_b212 hX hT ha0 ha1   _ _ (Or.inl rfl) (isC_n (by decide)) h) ⟨Or.inr rfl, Or.inr rfl, Or.inr rfl, Or.inr rfl, Or.inr rfl, Or.inr rfl, trivial⟩
    · replace h := ite_f q24 h
      refine q_iconst hX dX1_perform_207 (v := (nI 1)) (by decide) ?_
      refine q_goto hX dX1_perform_208 (tgt := 212) (by decide) ?_
      exact q_dr (w_X1_perform_b212 hX hT ha0 ha1   _ _ (Or.inr rfl) (isC_n (by decide)) h) ⟨Or.inr rfl, Or.inr rfl, Or.inr rfl, Or.inr rfl, Or.inr rfl, Or.inr rfl, trivial⟩
  replace h := ite_f q37 h
  refine q_tableOut hX dX1_perform_8 (by have w0 := swn q25 (by decide); have w1 := swn q26 (by decide); have w2 := swn q27 (by decide); have w3 := swn q28 (by decide); have w4 := swn q29 (by decide); have w5 := swn q30 (by decide); have w6 := swn q31 (by decide); have w7 := swn q32 (by decide); have w8 := swn q33 (by decide); have w9 := swn q34 (by decide); have w10 := swn q35 (by decide); have w11 := swn q36 (by decide); have w12 := swn q37 (by decide); omega) (tgt := 216) (by decide) ?_
  exact q_dr (w_X1_perform_b216 hX hT ha0 ha1   _  h) ⟨Or.inl rfl, Or.inr rfl, Or.inr rfl, Or.inr rfl, Or.inr rfl, Or.inr rfl, trivial⟩
set_option maxRecDepth 100000 in
set_option maxHeartbeats 4000000 in
theorem w_X3_heatingTime {l : Launch} {D : DT} {L : LT} {a0 : Nat} {a1 : Int32} {I : IT} {K : Int32 → Prop} (ha0 : isKet a0) (h : f_X3_heatingTime a0 a1 I K) : Con2 l D m_X3_heatingTime 2 [.ref a0, .int a1] 0 0 I L (Pi L (fun x I' => I' = I ∧ K x)) := by
  refine Con2.of (by decide +kernel) (by simp [Value.category]) (Nat.le_of_ble_eq_true rfl) (fun X hX hT => ?_)
  have hX : OK X D cX3_heatingTime "TeaHouse$Kettles" 4 := hX
  have hT : RT X l D (some .int) (P2 (Pi L (fun x I' => I' = I ∧ K x))) 2 0 0 := hT
  have hR := hT.room
  change J2 X D 4 0 0 I L 0 [.ref a0, .int a1, .retAddr 0, .retAddr 0] []
  rw [f_X3_heatingTime] at h
  refine q_aload_n hX dX3_heatingTime_0 rfl ?_
  refine q_iload_n hX dX3_heatingTime_1 rfl ?_
  refine q_V_ip hX hR (w_X3_rise ha0 h) lk_X3_42 (rc2_KET ha0) dX3_heatingTime_2 rfl rfl (Nat.le_of_ble_eq_true rfl) (by omega) (by omega) (by omega) ?_
  intro x1 h
  refine q_istore_n hX dX3_heatingTime_5 (by decide) (ls' := [_, _, _, _]) rfl ?_
  refine q_aload_n hX dX3_heatingTime_6 rfl ?_
  refine q_getR hX gf_X3_15 rfl dX3_heatingTime_7 (at_KET ha0) (b := (a0 + 2)) (rt_KET_1 ha0) ?_
  refine q_iload_n hX dX3_heatingTime_10 rfl ?_
  obtain ⟨z2, h⟩ := h
  refine q_iald hX dX3_heatingTime_11 (aa_KET_1 ha0) (inr_e z2) (inr_lt z2) (by decide) ?_
  refine q_if_eq hX dX3_heatingTime_12 (tgt := 19) (by decide) (fun q3 => ?_) (fun q3 => ?_)
  · replace h := ite_t q3 h
    refine q_iconst hX dX3_heatingTime_19 (v := (-1)) (by decide) ?_
    exact q_iretp hX hT dX3_heatingTime_20 h
  · replace h := ite_f q3 h
    refine q_iload_n hX dX3_heatingTime_15 rfl ?_
    refine q_if_gt hX dX3_heatingTime_16 (tgt := 21) (by decide) (fun q4 => ?_) (fun q4 => ?_)
    · replace h := ite_t q4 h
      refine q_sipush hX dX3_heatingTime_21 (v := (nI 200)) (by decide) ?_
      refine q_aload_n hX dX3_heatingTime_24 rfl ?_
      refine q_getR hX gf_X3_18 rfl dX3_heatingTime_25 (at_KET ha0) (b := (a0 + 3)) (rt_KET_2 ha0) ?_
      refine q_iload_n hX dX3_heatingTime_28 rfl ?_
      refine q_iald hX dX3_heatingTime_29 (aa_KET_2 ha0) (inr_e z2) (inr_lt z2) (by decide) ?_
      refine q_isub hX dX3_heatingTime_30 ?_
      replace h := bnd_e h
      refine q_istore_n hX dX3_heatingTime_31 (by decide) (ls' := [_, _, _, _]) rfl ?_
      refine q_iconst hX dX3_heatingTime_32 (v := (nI 1)) (by decide) ?_
      refine q_iload_n hX dX3_heatingTime_33 rfl ?_
      refine q_iload_n hX dX3_heatingTime_34 rfl ?_
      refine q_iadd hX dX3_heatingTime_35 ?_
      refine q_iconst hX dX3_heatingTime_36 (v := (nI 1)) (by decide) ?_
      refine q_isub hX dX3_heatingTime_37 ?_
      refine q_iload_n hX dX3_heatingTime_38 rfl ?_
      obtain ⟨z6, h⟩ := h
      refine q_idiv hX dX3_heatingTime_39 z6 ?_
      refine q_max hX hR mm_X3_45 w_max1 w_math w_max2 dX3_heatingTime_40 (Nat.le_of_ble_eq_true rfl) (by omega) (by omega) (by omega) ?_
      exact q_iretp hX hT dX3_heatingTime_43 h
    · replace h := ite_f q4 h
      refine q_iconst hX dX3_heatingTime_19 (v := (-1)) (by decide) ?_
      exact q_iretp hX hT dX3_heatingTime_20 h
set_option maxRecDepth 100000 in
set_option maxHeartbeats 4000000 in
theorem w_X3_isAhead {l : Launch} {D : DT} {L : LT} {a0 : Nat} {a1 : Int32} {a2 : Int32} {I : IT} {K : Int32 → Prop} (ha0 : isKet a0) (h : f_X3_isAhead a0 a1 a2 I K) : Con2 l D m_X3_isAhead 1 [.ref a0, .int a1, .int a2] 0 0 I L (Pz L (fun x I' => I' = I ∧ K x)) := by
  refine Con2.of (by decide +kernel) (by simp [Value.category]) (Nat.le_of_ble_eq_true rfl) (fun X hX hT => ?_)
  have hX : OK X D cX3_isAhead "TeaHouse$Kettles" 3 := hX
  have hT : RT X l D (some .boolean) (P2 (Pz L (fun x I' => I' = I ∧ K x))) 1 0 0 := hT
  have hR := hT.room
  change J2 X D 3 0 0 I L 0 [.ref a0, .int a1, .int a2] []
  rw [f_X3_isAhead] at h
  refine q_aload_n hX dX3_isAhead_0 rfl ?_
  refine q_getR hX gf_X3_18 rfl dX3_isAhead_1 (at_KET ha0) (b := (a0 + 3)) (rt_KET_2 ha0) ?_
  refine q_iload_n hX dX3_isAhead_4 rfl ?_
  obtain ⟨z1, h⟩ := h
  refine q_iald hX dX3_isAhead_5 (aa_KET_2 ha0) (inr_e z1) (inr_lt z1) (by decide) ?_
  refine q_aload_n hX dX3_isAhead_6 rfl ?_
  refine q_getR hX gf_X3_18 rfl dX3_isAhead_7 (at_KET ha0) (b := (a0 + 3)) (rt_KET_2 ha0) ?_
  refine q_iload_n hX dX3_isAhead_10 rfl ?_
  obtain ⟨z2, h⟩ := h
  refine q_iald hX dX3_isAhead_11 (aa_KET_2 ha0) (inr_e z2) (inr_lt z2) (by decide) ?_
  refine q_icmp_eq hX dX3_isAhead_12 (tgt := 36) (by decide) (fun q3 => ?_) (fun q3 => ?_)
  · replace h := ite_t q3 h
    refine q_aload_n hX dX3_isAhead_36 rfl ?_
    refine q_getR hX gf_X3_15 rfl dX3_isAhead_37 (at_KET ha0) (b := (a0 + 2)) (rt_KET_1 ha0) ?_
    refine q_iload_n hX dX3_isAhead_40 rfl ?_
    refine q_iald hX dX3_isAhead_41 (aa_KET_1 ha0) (inr_e z1) (inr_lt z1) (by decide) ?_
    refine q_aload_n hX dX3_isAhead_42 rfl ?_
    refine q_getR hX gf_X3_15 rfl dX3_isAhead_43 (at_KET ha0) (b := (a0 + 2)) (rt_KET_1 ha0) ?_
    refine q_iload_n hX dX3_isAhead_46 rfl ?_
    refine q_iald hX dX3_isAhead_47 (aa_KET_1 ha0) (inr_e z2) (inr_lt z2) (by decide) ?_
    refine q_icmp_eq hX dX3_isAhead_48 (tgt := 72) (by decide) (fun q4 => ?_) (fun q4 => ?_)
    · replace h := ite_t q4 h
      refine q_iload_n hX dX3_isAhead_72 rfl ?_
      refine q_iload_n hX dX3_isAhead_73 rfl ?_
      refine q_icmp_ge hX dX3_isAhead_74 (tgt := 81) (by decide) (fun q5 => ?_) (fun q5 => ?_)
      · replace h := ite_t q5 h
        refine q_iconst hX dX3_isAhead_81 (v := (nI 0)) (by decide) ?_
        exact q_zretp hX hT dX3_isAhead_82 (Or.inl rfl) h
      · replace h := ite_f q5 h
        refine q_iconst hX dX3_isAhead_77 (v := (nI 1)) (by decide) ?_
        refine q_goto hX dX3_isAhead_78 (tgt := 82) (by decide) ?_
        exact q_zretp hX hT dX3_isAhead_82 (Or.inr rfl) h
    · replace h := ite_f q4 h
      refine q_aload_n hX dX3_isAhead_51 rfl ?_
      refine q_getR hX gf_X3_15 rfl dX3_isAhead_52 (at_KET ha0) (b := (a0 + 2)) (rt_KET_1 ha0) ?_
      refine q_iload_n hX dX3_isAhead_55 rfl ?_
      refine q_iald hX dX3_isAhead_56 (aa_KET_1 ha0) (inr_e z1) (inr_lt z1) (by decide) ?_
      refine q_aload_n hX dX3_isAhead_57 rfl ?_
      refine q_getR hX gf_X3_15 rfl dX3_isAhead_58 (at_KET ha0) (b := (a0 + 2)) (rt_KET_1 ha0) ?_
      refine q_iload_n hX dX3_isAhead_61 rfl ?_
      refine q_iald hX dX3_isAhead_62 (aa_KET_1 ha0) (inr_e z2) (inr_lt z2) (by decide) ?_
      refine q_icmp_le hX dX3_isAhead_63 (tgt := 70) (by decide) (fun q6 => ?_) (fun q6 => ?_)
      · replace h := ite_t q6 h
        refine q_iconst hX dX3_isAhead_70 (v := (nI 0)) (by decide) ?_
        exact q_zretp hX hT dX3_isAhead_71 (Or.inl rfl) h
      · replace h := ite_f q6 h
        refine q_iconst hX dX3_isAhead_66 (v := (nI 1)) (by decide) ?_
        refine q_goto hX dX3_isAhead_67 (tgt := 71) (by decide) ?_
        exact q_zretp hX hT dX3_isAhead_71 (Or.inr rfl) h
  · replace h := ite_f q3 h
    refine q_aload_n hX dX3_isAhead_15 rfl ?_
    refine q_getR hX gf_X3_18 rfl dX3_isAhead_16 (at_KET ha0) (b := (a0 + 3)) (rt_KET_2 ha0) ?_
    refine q_iload_n hX dX3_isAhead_19 rfl ?_
    refine q_iald hX dX3_isAhead_20 (aa_KET_2 ha0) (inr_e z1) (inr_lt z1) (by decide) ?_
    refine q_aload_n hX dX3_isAhead_21 rfl ?_
    refine q_getR hX gf_X3_18 rfl dX3_isAhead_22 (at_KET ha0) (b := (a0 + 3)) (rt_KET_2 ha0) ?_
    refine q_iload_n hX dX3_isAhead_25 rfl ?_
    refine q_iald hX dX3_isAhead_26 (aa_KET_2 ha0) (inr_e z2) (inr_lt z2) (by decide) ?_
    refine q_icmp_le hX dX3_isAhead_27 (tgt := 34) (by decide) (fun q7 => ?_) (fun q7 => ?_)
    · replace h := ite_t q7 h
      refine q_iconst hX dX3_isAhead_34 (v := (nI 0)) (by decide) ?_
      exact q_zretp hX hT dX3_isAhead_35 (Or.inl rfl) h
    · replace h := ite_f q7 h
      refine q_iconst hX dX3_isAhead_30 (v := (nI 1)) (by decide) ?_
      refine q_goto hX dX3_isAhead_31 (tgt := 35) (by decide) ?_
      exact q_zretp hX hT dX3_isAhead_35 (Or.inr rfl) h
