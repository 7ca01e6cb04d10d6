set_option maxRecDepth 100000 in
set_option maxHeartbeats 4000000 in
theorem w_X8_meanTemperature_b31 {X : XT} {D : DT} {l : Launch} {L : LT} {I : IT} {K : UInt64 → Prop} {KT : String → Prop} (hf : l.stackTraces = false) (hX : OK X D cX8_meanTemperature "TeaHouse" 5) (hT : RT X l D (some .double) (P2 (Px (Pd L (fun x I' => I' = I ∧ K x)) L (fun E I' => I' = I ∧ KT E))) 6 1 6)   : ∀ (n : Nat), ∀ {c w : Nat}, c + (0) ≤ 1 → w + (0) ≤ 6 → ∀ (v1 : Int32) (v2 : UInt64) (v4 : Int32), f_X8_meanTemperature_b31 I K KT n v1 v2 v4 → J2 X D 5 c w I L 31 [.ref 0, .int v1, .double v2, .retAddr 0, .int v4] [] := by
  have hR := hT.room
  intro n
  induction n with
  | zero => intro c w hc hw v1 v2 v4 h; exact False.elim h
  | succ n ih =>
    intro c w hc hw v1 v2 v4 h
    rw [f_X8_meanTemperature_b31] at h
    refine q_iload hX dX8_meanTemperature_31 rfl ?_
    refine q_iload_n hX dX8_meanTemperature_33 rfl ?_
    refine q_icmp_ge hX dX8_meanTemperature_34 (tgt := 63) (by decide) (fun q1 => ?_) (fun q1 => ?_)
    · replace h := ite_t q1 h
      refine q_dload_n hX dX8_meanTemperature_63 rfl ?_
      refine q_iload_n hX dX8_meanTemperature_64 rfl ?_
      refine q_i2d hX dX8_meanTemperature_65 ?_
      obtain ⟨z2, h⟩ := h
      refine q_ddiv hX dX8_meanTemperature_66 z2 ?_
      exact q_x_dretp hX hT dX8_meanTemperature_67 h (by omega) (by omega)
    · replace h := ite_f q1 h
      refine q_dload_n hX dX8_meanTemperature_37 rfl ?_
      refine q_aload_n hX dX8_meanTemperature_38 rfl ?_
      refine q_getR hX gf_X8_12 rfl dX8_meanTemperature_39 (at_of (n := 0) rfl) (b := 1) rfl ?_
      refine q_getR hX gf_X8_117 rfl dX8_meanTemperature_42 (at_of (n := 0) rfl) (b := 2) rfl ?_
      refine q_getR hX gf_X8_134 rfl dX8_meanTemperature_45 (at_of (n := 0) rfl) (b := 5) rfl ?_
      refine q_iload hX dX8_meanTemperature_48 rfl ?_
      obtain ⟨z3, h⟩ := h
      refine q_iald hX dX8_meanTemperature_50 (at_of (a := 5) (t := 22) (n := 4) rfl) (inr_e z3) (inr_lt z3) (by decide) ?_
      refine q_S_fp hX hR (w_X8_halves  h) lk_X8_77 dX8_meanTemperature_51 rfl rfl (Nat.le_of_ble_eq_true rfl) (by omega) (by omega) (by omega) ?_
      intro x4 h
      obtain ⟨z5, h⟩ := h
      refine q_f2d hX dX8_meanTemperature_54 z5 ?_
      obtain ⟨z6, h⟩ := h
      refine q_dadd hX dX8_meanTemperature_55 z6 ?_
      refine q_dstore_n hX dX8_meanTemperature_56 (by decide) (ls' := [_, _, _, _, _]) rfl ?_
      replace h := bnd_e h
      refine q_iinc hX dX8_meanTemperature_57 (by decide) rfl (v := _ + nI 1) (ls' := [_, _, _, _, _]) rfl rfl ?_
      refine q_goto hX dX8_meanTemperature_60 (tgt := 31) (by decide) ?_
      exact q_dr (ih (by omega) (by omega) _ _ _  h) ⟨Or.inl rfl, Or.inl rfl, Or.inl rfl, Or.inl rfl, Or.inl rfl, trivial⟩
set_option maxRecDepth 100000 in
set_option maxHeartbeats 4000000 in
theorem w_X8_meanTemperature {l : Launch} {D : DT} {L : LT}  {I : IT} {K : UInt64 → Prop} {KT : String → Prop} (hf : l.stackTraces = false)  (h : f_X8_meanTemperature  I K KT) : Con2 l D m_X8_meanTemperature 6 [.ref 0] 1 6 I L (Px (Pd L (fun x I' => I' = I ∧ K x)) L (fun E I' => I' = I ∧ KT E)) := by
  refine Con2.of (by decide +kernel) (by simp [Value.category]) (Nat.le_of_ble_eq_true rfl) (fun X hX hT => ?_)
  have hX : OK X D cX8_meanTemperature "TeaHouse" 5 := hX
  have hT : RT X l D (some .double) (P2 (Px (Pd L (fun x I' => I' = I ∧ K x)) L (fun E I' => I' = I ∧ KT E))) 6 1 6 := hT
  have hR := hT.room
  change J2 X D 5 0 0 I L 0 [.ref 0, .retAddr 0, .retAddr 0, .retAddr 0, .retAddr 0] []
  rw [f_X8_meanTemperature] at h
  refine q_aload_n hX dX8_meanTemperature_0 rfl ?_
  refine q_getR hX gf_X8_12 rfl dX8_meanTemperature_1 (at_of (n := 0) rfl) (b := 1) rfl ?_
  refine q_getR hX gf_X8_117 rfl dX8_meanTemperature_4 (at_of (n := 0) rfl) (b := 2) rfl ?_
  refine q_getI hX gf_X8_120 rfl dX8_meanTemperature_7 (at_of (n := 0) rfl) ?_
  replace h := bnd_e h
  refine q_istore_n hX dX8_meanTemperature_10 (by decide) (ls' := [_, _, _, _, _]) rfl ?_
  refine q_iload_n hX dX8_meanTemperature_11 rfl ?_
  refine q_if_gt hX dX8_meanTemperature_12 (tgt := 26) (by decide) (fun q2 => ?_) (fun q2 => ?_)
  · replace h := ite_t q2 h
    refine q_dconst0 hX dX8_meanTemperature_26 ?_
    refine q_dstore_n hX dX8_meanTemperature_27 (by decide) (ls' := [_, _, _, _, _]) rfl ?_
    refine q_iconst hX dX8_meanTemperature_28 (v := (nI 0)) (by decide) ?_
    refine q_istore hX dX8_meanTemperature_29 (by decide) (ls' := [_, _, _, _, _]) rfl ?_
    exact q_dr (w_X8_meanTemperature_b31 hf hX hT    _  (by omega) (by omega) _ _ _  h) ⟨Or.inl rfl, Or.inl rfl, Or.inl rfl, Or.inl rfl, Or.inl rfl, trivial⟩
  · replace h := ite_f q2 h
    exact q_throwWp hX hT hf th_262 (text := "there are no kettles") (code := 45) (by decide +kernel) dX8_meanTemperature_15 dX8_meanTemperature_18 dX8_meanTemperature_19 dX8_meanTemperature_22 dX8_meanTemperature_25 (by decide) (by omega) h (by omega) (by omega)
set_option maxRecDepth 100000 in
set_option maxHeartbeats 4000000 in
theorem w_X8_lostShare {l : Launch} {D : DT} {L : LT}  {I : IT} {K : UInt32 → Prop} {KT : String → Prop} (hf : l.stackTraces = false)  (h : f_X8_lostShare  I K KT) : Con2 l D m_X8_lostShare 6 [.ref 0] 1 6 I L (Px (Pf L (fun x I' => I' = I ∧ K x)) L (fun E I' => I' = I ∧ KT E)) := by
  refine Con2.of (by decide +kernel) (by simp [Value.category]) (Nat.le_of_ble_eq_true rfl) (fun X hX hT => ?_)
  have hX : OK X D cX8_lostShare "TeaHouse" 2 := hX
  have hT : RT X l D (some .float) (P2 (Px (Pf L (fun x I' => I' = I ∧ K x)) L (fun E I' => I' = I ∧ KT E))) 6 1 6 := hT
  have hR := hT.room
  change J2 X D 2 0 0 I L 0 [.ref 0, .retAddr 0] []
  rw [f_X8_lostShare] at h
  refine q_aload_n hX dX8_lostShare_0 rfl ?_
  refine q_getR hX gf_X8_12 rfl dX8_lostShare_1 (at_of (n := 0) rfl) (b := 1) rfl ?_
  refine q_getI hX gf_X8_256 rfl dX8_lostShare_4 (at_of (n := 0) rfl) ?_
  refine q_aload_n hX dX8_lostShare_7 rfl ?_
  refine q_getR hX gf_X8_12 rfl dX8_lostShare_8 (at_of (n := 0) rfl) (b := 1) rfl ?_
  refine q_getI hX gf_X8_259 rfl dX8_lostShare_11 (at_of (n := 0) rfl) ?_
  refine q_iadd hX dX8_lostShare_14 ?_
  replace h := bnd_e h
  refine q_istore_n hX dX8_lostShare_15 (by decide) (ls' := [_, _]) rfl ?_
  refine q_iload_n hX dX8_lostShare_16 rfl ?_
  refine q_if_gt hX dX8_lostShare_17 (tgt := 31) (by decide) (fun q2 => ?_) (fun q2 => ?_)
  · replace h := ite_t q2 h
    refine q_aload_n hX dX8_lostShare_31 rfl ?_
    refine q_getR hX gf_X8_12 rfl dX8_lostShare_32 (at_of (n := 0) rfl) (b := 1) rfl ?_
    refine q_getI hX gf_X8_259 rfl dX8_lostShare_35 (at_of (n := 0) rfl) ?_
    refine q_i2f hX dX8_lostShare_38 ?_
    refine q_iload_n hX dX8_lostShare_39 rfl ?_
    refine q_i2f hX dX8_lostShare_40 ?_
    obtain ⟨z3, h⟩ := h
    refine q_fdiv hX dX8_lostShare_41 z3 ?_
    exact q_x_fretp hX hT dX8_lostShare_42 h (by omega) (by omega)
  · replace h := ite_f q2 h
    exact q_throwWp hX hT hf th_262 (text := "there were no whistles") (code := 46) (by decide +kernel) dX8_lostShare_20 dX8_lostShare_23 dX8_lostShare_24 dX8_lostShare_27 dX8_lostShare_30 (by decide) (by omega) h (by omega) (by omega)
set_option maxRecDepth 100000 in
set_option maxHeartbeats 4000000 in
theorem w_X8_allHeatingTimesAgree_b2 {X : XT} {D : DT} {l : Launch} {L : LT} {K : Int32 → IT → Prop} (hX : OK X D cX8_allHeatingTimesAgree "TeaHouse" 2) (hT : RT X l D (some .boolean) (P2 (Pz L K)) 5 0 0)   : ∀ (n : Nat), ∀ (v1 : Int32) (I : IT), f_X8_allHeatingTimesAgree_b2 K n v1 I → J2 X D 2 0 0 I L 2 [.ref 0, .int v1] [] := by
  have hR := hT.room
  intro n
  induction n with
  | zero => intro v1 I h; exact False.elim h
  | succ n ih =>
    intro v1 I h
    rw [f_X8_allHeatingTimesAgree_b2] at h
    refine q_iload_n hX dX8_allHeatingTimesAgree_2 rfl ?_
    refine q_aload_n hX dX8_allHeatingTimesAgree_3 rfl ?_
    refine q_getR hX gf_X8_12 rfl dX8_allHeatingTimesAgree_4 (at_of (n := 0) rfl) (b := 1) rfl ?_
    refine q_getR hX gf_X8_117 rfl dX8_allHeatingTimesAgree_7 (at_of (n := 0) rfl) (b := 2) rfl ?_
    refine q_getI hX gf_X8_120 rfl dX8_allHeatingTimesAgree_10 (at_of (n := 0) rfl) ?_
    refine q_icmp_ge hX dX8_allHeatingTimesAgree_13 (tgt := 43) (by decide) (fun q1 => ?_) (fun q1 => ?_)
    · replace h := ite_t q1 h
      refine q_iconst hX dX8_allHeatingTimesAgree_43 (v := (nI 1)) (by decide) ?_
      exact q_zret hX hT dX8_allHeatingTimesAgree_44 (Or.inr rfl) h
    · replace h := ite_f q1 h
      refine q_aload_n hX dX8_allHeatingTimesAgree_16 rfl ?_
      refine q_getR hX gf_X8_12 rfl dX8_allHeatingTimesAgree_17 (at_of (n := 0) rfl) (b := 1) rfl ?_
      refine q_getR hX gf_X8_117 rfl dX8_allHeatingTimesAgree_20 (at_of (n := 0) rfl) (b := 2) rfl ?_
      refine q_iload_n hX dX8_allHeatingTimesAgree_23 rfl ?_
      refine q_V_ip hX hR (w_X3_heatingTime (ket_n (a := 2) rfl) h) lk_X8_148 (rc2_of (ci := 6) rfl rfl) dX8_allHeatingTimesAgree_24 rfl rfl (Nat.le_of_ble_eq_true rfl) (by omega) (by omega) (by omega) ?_
      intro x2 h
      refine q_aload_n hX dX8_allHeatingTimesAgree_27 rfl ?_
      refine q_iload_n hX dX8_allHeatingTimesAgree_28 rfl ?_
      refine q_V_i hX hR (w_X8_heatingTimeOnCopy  h) lk_X8_154 (rc2_of (ci := 9) rfl rfl) dX8_allHeatingTimesAgree_29 rfl rfl (Nat.le_of_ble_eq_true rfl) (by omega) (by omega) (by omega) ?_
      intro x3 I4 h
      refine q_icmp_eq hX dX8_allHeatingTimesAgree_32 (tgt := 37) (by decide) (fun q5 => ?_) (fun q5 => ?_)
      · replace h := ite_t q5 h
        replace h := bnd_e h
        refine q_iinc hX dX8_allHeatingTimesAgree_37 (by decide) rfl (v := _ + nI 1) (ls' := [_, _]) rfl rfl ?_
        refine q_goto hX dX8_allHeatingTimesAgree_40 (tgt := 2) (by decide) ?_
        exact q_dr (ih _ _  h) ⟨Or.inl rfl, Or.inl rfl, trivial⟩
      · replace h := ite_f q5 h
        refine q_iconst hX dX8_allHeatingTimesAgree_35 (v := (nI 0)) (by decide) ?_
        exact q_zret hX hT dX8_allHeatingTimesAgree_36 (Or.inl rfl) h
set_option maxRecDepth 100000 in
set_option maxHeartbeats 4000000 in
theorem w_X8_allHeatingTimesAgree {l : Launch} {D : DT} {L : LT}  {I : IT} {K : Int32 → IT → Prop}  (h : f_X8_allHeatingTimesAgree  I K) : Con2 l D m_X8_allHeatingTimesAgree 5 [.ref 0] 0 0 I L (Pz L K) := by
  refine Con2.of (by decide +kernel) (by simp [Value.category]) (Nat.le_of_ble_eq_true rfl) (fun X hX hT => ?_)
  have hX : OK X D cX8_allHeatingTimesAgree "TeaHouse" 2 := hX
  have hT : RT X l D (some .boolean) (P2 (Pz L K)) 5 0 0 := hT
  have hR := hT.room
  change J2 X D 2 0 0 I L 0 [.ref 0, .retAddr 0] []
  rw [f_X8_allHeatingTimesAgree] at h
  refine q_iconst hX dX8_allHeatingTimesAgree_0 (v := (nI 0)) (by decide) ?_
  refine q_istore_n hX dX8_allHeatingTimesAgree_1 (by decide) (ls' := [_, _]) rfl ?_
  exact q_dr (w_X8_allHeatingTimesAgree_b2 hX hT   _  _ _  h) ⟨Or.inl rfl, Or.inl rfl, trivial⟩
set_option maxRecDepth 100000 in
set_option maxHeartbeats 4000000 in
theorem w_X8_floatOfBits_b22 {X : XT} {D : DT} {l : Launch} {L : LT} {a0 : Int32} {I : IT} {K : UInt32 → Prop} (hX : OK X D cX8_floatOfBits "TeaHouse" 4) (hT : RT X l D (some .float) (P2 (Pf L (fun x I' => I' = I ∧ K x))) 1 0 0)   : ∀ (n : Nat), ∀ (v1 : UInt32) (v2 : Int32) (v3 : Int32), f_X8_floatOfBits_b22 a0 I K n v1 v2 v3 → J2 X D 4 0 0 I L 22 [.retAddr 0, .float v1, .int v2, .int v3] [] := by
  have hR := hT.room
  intro n
  induction n with
  | zero => intro v1 v2 v3 h; exact False.elim h
  | succ n ih =>
    intro v1 v2 v3 h
    rw [f_X8_floatOfBits_b22] at h
    refine q_iload_n hX dX8_floatOfBits_22 rfl ?_
    refine q_iload_n hX dX8_floatOfBits_23 rfl ?_
    refine q_icmp_le hX dX8_floatOfBits_24 (tgt := 43) (by decide) (fun q1 => ?_) (fun q1 => ?_)
    · replace h := ite_t q1 h
      refine q_fload_n hX dX8_floatOfBits_43 rfl ?_
      exact q_fretp hX hT dX8_floatOfBits_44 h
    · replace h := ite_f q1 h
      refine q_iload_n hX dX8_floatOfBits_27 rfl ?_
      refine q_if_le hX dX8_floatOfBits_28 (tgt := 43) (by decide) (fun q2 => ?_) (fun q2 => ?_)
      · replace h := ite_t q2 h
        refine q_fload_n hX dX8_floatOfBits_43 rfl ?_
        exact q_fretp hX hT dX8_floatOfBits_44 h
      · replace h := ite_f q2 h
        refine q_fload_n hX dX8_floatOfBits_31 rfl ?_
        refine q_ldcfw hX kc_X8_418 dX8_floatOfBits_32 ?_
        obtain ⟨z3, h⟩ := h
        refine q_fmul hX dX8_floatOfBits_35 z3 ?_
        refine q_fstore_n hX dX8_floatOfBits_36 (by decide) (ls' := [_, _, _, _]) rfl ?_
        replace h := bnd_e h
        refine q_iinc hX dX8_floatOfBits_37 (by decide) rfl (v := _ + (-1)) (ls' := [_, _, _, _]) (iinc_m _ (by decide)) rfl ?_
        refine q_goto hX dX8_floatOfBits_40 (tgt := 22) (by decide) ?_
        exact q_dr (ih _ _ _  h) ⟨Or.inl rfl, Or.inl rfl, Or.inl rfl, Or.inl rfl, trivial⟩
set_option maxRecDepth 100000 in
set_option maxHeartbeats 4000000 in
theorem w_X8_floatOfBits {l : Launch} {D : DT} {L : LT} {a0 : Int32} {I : IT} {K : UInt32 → Prop}  (h : f_X8_floatOfBits a0 I K) : Con2 l D m_X8_floatOfBits 1 [.int a0] 0 0 I L (Pf L (fun x I' => I' = I ∧ K x)) := by
  refine Con2.of (by decide +kernel) (by simp [Value.category]) (Nat.le_of_ble_eq_true rfl) (fun X hX hT => ?_)
  have hX : OK X D cX8_floatOfBits "TeaHouse" 4 := hX
  have hT : RT X l D (some .float) (P2 (Pf L (fun x I' => I' = I ∧ K x))) 1 0 0 := hT
  have hR := hT.room
  change J2 X D 4 0 0 I L 0 [.int a0, .retAddr 0, .retAddr 0, .retAddr 0] []
  rw [f_X8_floatOfBits] at h
  refine q_iload_n hX dX8_floatOfBits_0 rfl ?_
  refine q_ldcw hX (v := (nI 8388607)) kc_X8_419 dX8_floatOfBits_1 ?_
  refine q_iand hX dX8_floatOfBits_4 ?_
  refine q_ldcw hX (v := (nI 8388608)) kc_X8_420 dX8_floatOfBits_5 ?_
  refine q_ior hX dX8_floatOfBits_8 ?_
  refine q_i2f hX dX8_floatOfBits_9 ?_
  refine q_fstore_n hX dX8_floatOfBits_10 (by decide) (ls' := [_, _, _, _]) rfl ?_
  refine q_iload_n hX dX8_floatOfBits_11 rfl ?_
  refine q_bipush hX dX8_floatOfBits_12 (v := (nI 23)) (by decide) ?_
  refine q_ishr hX dX8_floatOfBits_14 ?_
  refine q_bipush hX dX8_floatOfBits_15 (v := (nI 127)) (by decide) ?_
  refine q_isub hX dX8_floatOfBits_17 ?_
  replace h := bnd_e h
  refine q_istore_n hX dX8_floatOfBits_18 (by decide) (ls' := [_, _, _, _]) rfl ?_
  refine q_bipush hX dX8_floatOfBits_19 (v := (nI 23)) (by decide) ?_
  refine q_istore_n hX dX8_floatOfBits_21 (by decide) (ls' := [_, _, _, _]) rfl ?_
  exact q_dr (w_X8_floatOfBits_b22 hX hT   _  _ _ _  h) ⟨Or.inr rfl, Or.inl rfl, Or.inl rfl, Or.inl rfl, trivial⟩
set_option maxRecDepth 100000 in
set_option maxHeartbeats 4000000 in
theorem w_X8_allTemperatureBitsFit_b2 {X : XT} {D : DT} {l : Launch} {L : LT} {I : IT} {K : Int32 → Prop} (hX : OK X D cX8_allTemperatureBitsFit "TeaHouse" 3) (hT : RT X l D (some .boolean) (P2 (Pz L (fun x I' => I' = I ∧ K x))) 2 0 0)   : ∀ (n : Nat), ∀ (v1 : Int32), f_X8_allTemperatureBitsFit_b2 I K n v1 → J2 X D 3 0 0 I L 2 [.ref 0, .int v1, .retAddr 0] [] := by
  have hR := hT.room
  intro n
  induction n with
  | zero => intro v1 h; exact False.elim h
  | succ n ih =>
    intro v1 h
    rw [f_X8_allTemperatureBitsFit_b2] at h
    refine q_iload_n hX dX8_allTemperatureBitsFit_2 rfl ?_
    refine q_aload_n hX dX8_allTemperatureBitsFit_3 rfl ?_
    refine q_getR hX gf_X8_12 rfl dX8_allTemperatureBitsFit_4 (at_of (n := 0) rfl) (b := 1) rfl ?_
    refine q_getR hX gf_X8_117 rfl dX8_allTemperatureBitsFit_7 (at_of (n := 0) rfl) (b := 2) rfl ?_
    refine q_getI hX gf_X8_120 rfl dX8_allTemperatureBitsFit_10 (at_of (n := 0) rfl) ?_
    refine q_icmp_ge hX dX8_allTemperatureBitsFit_13 (tgt := 52) (by decide) (fun q1 => ?_) (fun q1 => ?_)
    · replace h := ite_t q1 h
      refine q_iconst hX dX8_allTemperatureBitsFit_52 (v := (nI 1)) (by decide) ?_
      exact q_zretp hX hT dX8_allTemperatureBitsFit_53 (Or.inr rfl) h
    · replace h := ite_f q1 h
      refine q_aload_n hX dX8_allTemperatureBitsFit_16 rfl ?_
      refine q_getR hX gf_X8_12 rfl dX8_allTemperatureBitsFit_17 (at_of (n := 0) rfl) (b := 1) rfl ?_
      refine q_getR hX gf_X8_117 rfl dX8_allTemperatureBitsFit_20 (at_of (n := 0) rfl) (b := 2) rfl ?_
      refine q_getR hX gf_X8_134 rfl dX8_allTemperatureBitsFit_23 (at_of (n := 0) rfl) (b := 5) rfl ?_
      refine q_iload_n hX dX8_allTemperatureBitsFit_26 rfl ?_
      obtain ⟨z2, h⟩ := h
      refine q_iald hX dX8_allTemperatureBitsFit_27 (at_of (a := 5) (t := 22) (n := 4) rfl) (inr_e z2) (inr_lt z2) (by decide) ?_
      replace h := bnd_e h
      refine q_istore_n hX dX8_allTemperatureBitsFit_28 (by decide) (ls' := [_, _, _]) rfl ?_
      refine q_iload_n hX dX8_allTemperatureBitsFit_29 rfl ?_
      refine q_S_ip hX hR (w_X8_bitsOfHalves  h) lk_X8_137 dX8_allTemperatureBitsFit_30 rfl rfl (Nat.le_of_ble_eq_true rfl) (by omega) (by omega) (by omega) ?_
      intro x4 h
      refine q_S_fp hX hR (w_X8_floatOfBits  h) lk_X8_377 dX8_allTemperatureBitsFit_33 rfl rfl (Nat.le_of_ble_eq_true rfl) (by omega) (by omega) (by omega) ?_
      intro x5 h
      refine q_iload_n hX dX8_allTemperatureBitsFit_36 rfl ?_
      refine q_S_fp hX hR (w_X8_halves  h) lk_X8_77 dX8_allTemperatureBitsFit_37 rfl rfl (Nat.le_of_ble_eq_true rfl) (by omega) (by omega) (by omega) ?_
      intro x6 h
      refine q_fcmp hX dX8_allTemperatureBitsFit_40 ?_
      refine q_if_eq hX dX8_allTemperatureBitsFit_41 (tgt := 46) (by decide) (fun q7 => ?_) (fun q7 => ?_)
      · replace h := ite_t q7 h
        replace h := bnd_e h
        refine q_iinc hX dX8_allTemperatureBitsFit_46 (by decide) rfl (v := _ + nI 1) (ls' := [_, _, _]) rfl rfl ?_
        refine q_goto hX dX8_allTemperatureBitsFit_49 (tgt := 2) (by decide) ?_
        exact q_dr (ih _  h) ⟨Or.inl rfl, Or.inl rfl, Or.inr rfl, trivial⟩
      · replace h := ite_f q7 h
        refine q_iconst hX dX8_allTemperatureBitsFit_44 (v := (nI 0)) (by decide) ?_
        exact q_zretp hX hT dX8_allTemperatureBitsFit_45 (Or.inl rfl) h
set_option maxRecDepth 100000 in
set_option maxHeartbeats 4000000 in
theorem w_X8_allTemperatureBitsFit {l : Launch} {D : DT} {L : LT}  {I : IT} {K : Int32 → Prop}  (h : f_X8_allTemperatureBitsFit  I K) : Con2 l D m_X8_allTemperatureBitsFit 2 [.ref 0] 0 0 I L (Pz L (fun x I' => I' = I ∧ K x)) := by
  refine Con2.of (by decide +kernel) (by simp [Value.category]) (Nat.le_of_ble_eq_true rfl) (fun X hX hT => ?_)
  have hX : OK X D cX8_allTemperatureBitsFit "TeaHouse" 3 := hX
  have hT : RT X l D (some .boolean) (P2 (Pz L (fun x I' => I' = I ∧ K x))) 2 0 0 := hT
  have hR := hT.room
  change J2 X D 3 0 0 I L 0 [.ref 0, .retAddr 0, .retAddr 0] []
  rw [f_X8_allTemperatureBitsFit] at h
  refine q_iconst hX dX8_allTemperatureBitsFit_0 (v := (nI 0)) (by decide) ?_
  refine q_istore_n hX dX8_allTemperatureBitsFit_1 (by decide) (ls' := [_, _, _]) rfl ?_
  exact q_dr (w_X8_allTemperatureBitsFit_b2 hX hT   _  _  h) ⟨Or.inl rfl, Or.inl rfl, Or.inl rfl, trivial⟩
set_option maxRecDepth 100000 in
set_option maxHeartbeats 4000000 in
theorem w_X8_isBalanced {l : Launch} {D : DT} {L : LT}  {I : IT} {K : Int32 → IT → Prop}  (h : f_X8_isBalanced  I K) : Con2 l D m_X8_isBalanced 6 [.ref 0] 0 0 I L (Pz L K) := by
  refine Con2.of (by decide +kernel) (by simp [Value.category]) (Nat.le_of_ble_eq_true rfl) (fun X hX hT => ?_)
  have hX : OK X D cX8_isBalanced "TeaHouse" 1 := hX
  have hT : RT X l D (some .boolean) (P2 (Pz L K)) 6 0 0 := hT
  have hR := hT.room
  change J2 X D 1 0 0 I L 0 [.ref 0] []
  rw [f_X8_isBalanced] at h
  refine q_aload_n hX dX8_isBalanced_0 rfl ?_
  refine q_getR hX gf_X8_12 rfl dX8_isBalanced_1 (at_of (n := 0) rfl) (b := 1) rfl ?_
  refine q_getI hX gf_X8_210 rfl dX8_isBalanced_4 (at_of (n := 0) rfl) ?_
  refine q_aload_n hX dX8_isBalanced_7 rfl ?_
  refine q_getR hX gf_X8_12 rfl dX8_isBalanced_8 (at_of (n := 0) rfl) (b := 1) rfl ?_
  refine q_getR hX gf_X8_117 rfl dX8_isBalanced_11 (at_of (n := 0) rfl) (b := 2) rfl ?_
  refine q_V_ip hX hR (w_X3_totalVolume (ket_n (a := 2) rfl) h) lk_X8_269 (rc2_of (ci := 6) rfl rfl) dX8_isBalanced_14 rfl rfl (Nat.le_of_ble_eq_true rfl) (by omega) (by omega) (by omega) ?_
  intro x1 h
  refine q_aload_n hX dX8_isBalanced_17 rfl ?_
  refine q_getR hX gf_X8_12 rfl dX8_isBalanced_18 (at_of (n := 0) rfl) (b := 1) rfl ?_
  refine q_getI hX gf_X8_207 rfl dX8_isBalanced_21 (at_of (n := 0) rfl) ?_
  refine q_iadd hX dX8_isBalanced_24 ?_
  refine q_aload_n hX dX8_isBalanced_25 rfl ?_
  refine q_getR hX gf_X8_12 rfl dX8_isBalanced_26 (at_of (n := 0) rfl) (b := 1) rfl ?_
  refine q_getI hX gf_X8_205 rfl dX8_isBalanced_29 (at_of (n := 0) rfl) ?_
  refine q_iadd hX dX8_isBalanced_32 ?_
  refine q_icmp_ne hX dX8_isBalanced_33 (tgt := 110) (by decide) (fun q2 => ?_) (fun q2 => ?_)
  · replace h := ite_f q2 h
    refine q_iconst hX dX8_isBalanced_110 (v := (nI 0)) (by decide) ?_
    exact q_zret hX hT dX8_isBalanced_111 (Or.inl rfl) h
  · replace h := ite_t q2 h
    refine q_aload_n hX dX8_isBalanced_36 rfl ?_
    refine q_getR hX gf_X8_12 rfl dX8_isBalanced_37 (at_of (n := 0) rfl) (b := 1) rfl ?_
    refine q_getI hX gf_X8_202 rfl dX8_isBalanced_40 (at_of (n := 0) rfl) ?_
    refine q_aload_n hX dX8_isBalanced_43 rfl ?_
    refine q_getR hX gf_X8_12 rfl dX8_isBalanced_44 (at_of (n := 0) rfl) (b := 1) rfl ?_
    refine q_getI hX gf_X8_205 rfl dX8_isBalanced_47 (at_of (n := 0) rfl) ?_
    refine q_icmp_gt hX dX8_isBalanced_50 (tgt := 110) (by decide) (fun q3 => ?_) (fun q3 => ?_)
    · replace h := ite_t q3 h
      refine q_iconst hX dX8_isBalanced_110 (v := (nI 0)) (by decide) ?_
      exact q_zret hX hT dX8_isBalanced_111 (Or.inl rfl) h
    · replace h := ite_f q3 h
      refine q_aload_n hX dX8_isBalanced_53 rfl ?_
      refine q_getR hX gf_X8_12 rfl dX8_isBalanced_54 (at_of (n := 0) rfl) (b := 1) rfl ?_
      refine q_getR hX gf_X8_216 rfl dX8_isBalanced_57 (at_of (n := 0) rfl) (b := 14) rfl ?_
      refine q_V_zp hX hR (w_X4_isConsistent (led_n (a := 14) rfl) h) lk_X8_272 (rc2_of (ci := 7) rfl rfl) dX8_isBalanced_60 rfl rfl (Nat.le_of_ble_eq_true rfl) (by omega) (by omega) (by omega) ?_
      intro x4 hrx4 h
      refine q_if_eq hX dX8_isBalanced_63 (tgt := 110) (by decide) (fun q5 => ?_) (fun q5 => ?_)
      · replace h := ite_t q5 h
        refine q_iconst hX dX8_isBalanced_110 (v := (nI 0)) (by decide) ?_
        exact q_zret hX hT dX8_isBalanced_111 (Or.inl rfl) h
      · replace h := ite_f q5 h
        refine q_aload_n hX dX8_isBalanced_66 rfl ?_
        refine q_getR hX gf_X8_12 rfl dX8_isBalanced_67 (at_of (n := 0) rfl) (b := 1) rfl ?_
        refine q_getR hX gf_X8_160 rfl dX8_isBalanced_70 (at_of (n := 0) rfl) (b := 8) rfl ?_
        refine q_V_zp hX hR (w_X5_isConsistent (ord_n (a := 8) rfl) h) lk_X8_276 (rc2_of (ci := 8) rfl rfl) dX8_isBalanced_73 rfl rfl (Nat.le_of_ble_eq_true rfl) (by omega) (by omega) (by omega) ?_
        intro x6 hrx6 h
        refine q_if_eq hX dX8_isBalanced_76 (tgt := 110) (by decide) (fun q7 => ?_) (fun q7 => ?_)
        · replace h := ite_t q7 h
          refine q_iconst hX dX8_isBalanced_110 (v := (nI 0)) (by decide) ?_
          exact q_zret hX hT dX8_isBalanced_111 (Or.inl rfl) h
        · replace h := ite_f q7 h
          refine q_aload_n hX dX8_isBalanced_79 rfl ?_
          refine q_getR hX gf_X8_12 rfl dX8_isBalanced_80 (at_of (n := 0) rfl) (b := 1) rfl ?_
          refine q_getR hX gf_X8_117 rfl dX8_isBalanced_83 (at_of (n := 0) rfl) (b := 2) rfl ?_
          refine q_V_zp hX hR (w_X3_isRankedOnceEach (ket_n (a := 2) rfl) h) lk_X8_277 (rc2_of (ci := 6) rfl rfl) dX8_isBalanced_86 rfl rfl (Nat.le_of_ble_eq_true rfl) (by omega) (by omega) (by omega) ?_
          intro x8 hrx8 h
          refine q_if_eq hX dX8_isBalanced_89 (tgt := 110) (by decide) (fun q9 => ?_) (fun q9 => ?_)
          · replace h := ite_t q9 h
            refine q_iconst hX dX8_isBalanced_110 (v := (nI 0)) (by decide) ?_
            exact q_zret hX hT dX8_isBalanced_111 (Or.inl rfl) h
          · replace h := ite_f q9 h
            refine q_aload_n hX dX8_isBalanced_92 rfl ?_
            refine q_V_zp hX hR (w_X8_allTemperatureBitsFit  h) lk_X8_280 (rc2_of (ci := 9) rfl rfl) dX8_isBalanced_93 rfl rfl (Nat.le_of_ble_eq_true rfl) (by omega) (by omega) (by omega) ?_
            intro x10 hrx10 h
            refine q_if_eq hX dX8_isBalanced_96 (tgt := 110) (by decide) (fun q11 => ?_) (fun q11 => ?_)
            · replace h := ite_t q11 h
              refine q_iconst hX dX8_isBalanced_110 (v := (nI 0)) (by decide) ?_
              exact q_zret hX hT dX8_isBalanced_111 (Or.inl rfl) h
            · replace h := ite_f q11 h
              refine q_aload_n hX dX8_isBalanced_99 rfl ?_
              refine q_V_z hX hR (w_X8_allHeatingTimesAgree  h) lk_X8_283 (rc2_of (ci := 9) rfl rfl) dX8_isBalanced_100 rfl rfl (Nat.le_of_ble_eq_true rfl) (by omega) (by omega) (by omega) ?_
              intro x12 I13 hrx12 h
              refine q_if_eq hX dX8_isBalanced_103 (tgt := 110) (by decide) (fun q14 => ?_) (fun q14 => ?_)
              · replace h := ite_t q14 h
                refine q_iconst hX dX8_isBalanced_110 (v := (nI 0)) (by decide) ?_
                exact q_zret hX hT dX8_isBalanced_111 (Or.inl rfl) h
              · replace h := ite_f q14 h
                refine q_iconst hX dX8_isBalanced_106 (v := (nI 1)) (by decide) ?_
                refine q_goto hX dX8_isBalanced_107 (tgt := 111) (by decide) ?_
                exact q_zret hX hT dX8_isBalanced_111 (Or.inr rfl) h
set_option maxRecDepth 100000 in
set_option maxHeartbeats 4000000 in
theorem w_X8_formatKettle {l : Launch} {D : DT} {L : LT} {a1 : Int32} {I : IT} {K : Int32 → IT → Prop} {KT : String → IT → Prop} (hf : l.stackTraces = false)  (h : f_X8_formatKettle a1 I K KT) : Con2 l D m_X8_formatKettle 10 [.ref 0, .int a1] 13 3846 I L (Px (Pi L K) L KT) := by
  refine Con2.of (by decide +kernel) (by simp [Value.category]) (Nat.le_of_ble_eq_true rfl) (fun X hX hT => ?_)
  have hX : OK X D cX8_formatKettle "TeaHouse" 2 := hX
  have hT : RT X l D (some .int) (P2 (Px (Pi L K) L KT)) 10 13 3846 := hT
  have hR := hT.room
  change J2 X D 2 0 0 I L 0 [.ref 0, .int a1] []
  rw [f_X8_formatKettle] at h
  refine q_aload_n hX dX8_formatKettle_0 rfl ?_
  refine q_iload_n hX dX8_formatKettle_1 rfl ?_
  refine q_V_vpx hX hR hT (w_X8_requireKettle hf  h) lk_X8_123 (rc2_of (ci := 9) rfl rfl) dX8_formatKettle_2 rfl rfl (Nat.le_of_ble_eq_true rfl) (by omega) (by omega) (by omega) (fun _ _ h => by obtain ⟨rfl, h⟩ := h; exact h) ?_
  intro h
  refine q_aload_n hX dX8_formatKettle_5 rfl ?_
  refine q_getR hX gf_X8_43 rfl dX8_formatKettle_6 (at_of (n := 0) rfl) (b := 60) rfl ?_
  refine q_iconst hX dX8_formatKettle_9 (v := (nI 0)) (by decide) ?_
  refine q_V_v hX hR (w_J4_setLength_d00df  h) lk_X8_286 (rc2_of (ci := 1) rfl rfl) dX8_formatKettle_10 rfl rfl (Nat.le_of_ble_eq_true rfl) (by omega) (by omega) (by omega) ?_
  intro I1 h
  refine q_aload_n hX dX8_formatKettle_13 rfl ?_
  refine q_getR hX gf_X8_12 rfl dX8_formatKettle_14 (at_of (n := 0) rfl) (b := 1) rfl ?_
  refine q_getR hX gf_X8_117 rfl dX8_formatKettle_17 (at_of (n := 0) rfl) (b := 2) rfl ?_
  refine q_iload_n hX dX8_formatKettle_20 rfl ?_
  refine q_aload_n hX dX8_formatKettle_21 rfl ?_
  refine q_getR hX gf_X8_43 rfl dX8_formatKettle_22 (at_of (n := 0) rfl) (b := 60) rfl ?_
  refine q_V_v hX hR (w_X3_describe (ket_n (a := 2) rfl) h) lk_X8_289 (rc2_of (ci := 6) rfl rfl) dX8_formatKettle_25 rfl rfl (Nat.le_of_ble_eq_true rfl) (by omega) (by omega) (by omega) ?_
  intro I2 h
  refine q_aload_n hX dX8_formatKettle_28 rfl ?_
  refine q_getR hX gf_X8_43 rfl dX8_formatKettle_29 (at_of (n := 0) rfl) (b := 60) rfl ?_
  refine q_V_ip hX hR (w_J4_length_8abf5  h) lk_X8_293 (rc2_of (ci := 1) rfl rfl) dX8_formatKettle_32 rfl rfl (Nat.le_of_ble_eq_true rfl) (by omega) (by omega) (by omega) ?_
  intro x3 h
  exact q_x_iret hX hT dX8_formatKettle_35 h (by omega) (by omega)
set_option maxRecDepth 100000 in
set_option maxHeartbeats 4000000 in
theorem w_X8_formatOrder {l : Launch} {D : DT} {L : LT} {a1 : Int32} {I : IT} {K : Int32 → IT → Prop} {KT : String → IT → Prop} (hf : l.stackTraces = false)  (h : f_X8_formatOrder a1 I K KT) : Con2 l D m_X8_formatOrder 10 [.ref 0, .int a1] 11 3206 I L (Px (Pi L K) L KT) := by
  refine Con2.of (by decide +kernel) (by simp [Value.category]) (Nat.le_of_ble_eq_true rfl) (fun X hX hT => ?_)
  have hX : OK X D cX8_formatOrder "TeaHouse" 3 := hX
  have hT : RT X l D (some .int) (P2 (Px (Pi L K) L KT)) 10 11 3206 := hT
  have hR := hT.room
  change J2 X D 3 0 0 I L 0 [.ref 0, .int a1, .retAddr 0] []
  rw [f_X8_formatOrder] at h
  refine q_aload_n hX dX8_formatOrder_0 rfl ?_
  refine q_getR hX gf_X8_12 rfl dX8_formatOrder_1 (at_of (n := 0) rfl) (b := 1) rfl ?_
  refine q_getR hX gf_X8_160 rfl dX8_formatOrder_4 (at_of (n := 0) rfl) (b := 8) rfl ?_
  refine q_iload_n hX dX8_formatOrder_7 rfl ?_
  refine q_V_ip hX hR (w_X5_find (ord_n (a := 8) rfl) h) lk_X8_170 (rc2_of (ci := 8) rfl rfl) dX8_formatOrder_8 rfl rfl (Nat.le_of_ble_eq_true rfl) (by omega) (by omega) (by omega) ?_
  intro x1 h
  refine q_S_ipx hX hR hT (w_X8_requireFound hf  h) lk_X8_151 dX8_formatOrder_11 rfl rfl (Nat.le_of_ble_eq_true rfl) (by omega) (by omega) (by omega) (fun _ _ h => by obtain ⟨rfl, h⟩ := h; exact h) ?_
  intro x2 h
  refine q_istore_n hX dX8_formatOrder_14 (by decide) (ls' := [_, _, _]) rfl ?_
  refine q_aload_n hX dX8_formatOrder_15 rfl ?_
  refine q_getR hX gf_X8_43 rfl dX8_formatOrder_16 (at_of (n := 0) rfl) (b := 60) rfl ?_
  refine q_iconst hX dX8_formatOrder_19 (v := (nI 0)) (by decide) ?_
  refine q_V_v hX hR (w_J4_setLength_d00df  h) lk_X8_286 (rc2_of (ci := 1) rfl rfl) dX8_formatOrder_20 rfl rfl (Nat.le_of_ble_eq_true rfl) (by omega) (by omega) (by omega) ?_
  intro I3 h
  refine q_aload_n hX dX8_formatOrder_23 rfl ?_
  refine q_getR hX gf_X8_12 rfl dX8_formatOrder_24 (at_of (n := 0) rfl) (b := 1) rfl ?_
  refine q_getR hX gf_X8_160 rfl dX8_formatOrder_27 (at_of (n := 0) rfl) (b := 8) rfl ?_
  refine q_iload_n hX dX8_formatOrder_30 rfl ?_
  refine q_aload_n hX dX8_formatOrder_31 rfl ?_
  refine q_getR hX gf_X8_43 rfl dX8_formatOrder_32 (at_of (n := 0) rfl) (b := 60) rfl ?_
  refine q_V_v hX hR (w_X5_describe (ord_n (a := 8) rfl) h) lk_X8_296 (rc2_of (ci := 8) rfl rfl) dX8_formatOrder_35 rfl rfl (Nat.le_of_ble_eq_true rfl) (by omega) (by omega) (by omega) ?_
  intro I4 h
  refine q_aload_n hX dX8_formatOrder_38 rfl ?_
  refine q_getR hX gf_X8_43 rfl dX8_formatOrder_39 (at_of (n := 0) rfl) (b := 60) rfl ?_
  refine q_V_ip hX hR (w_J4_length_8abf5  h) lk_X8_293 (rc2_of (ci := 1) rfl rfl) dX8_formatOrder_42 rfl rfl (Nat.le_of_ble_eq_true rfl) (by omega) (by omega) (by omega) ?_
  intro x5 h
  exact q_x_iret hX hT dX8_formatOrder_45 h (by omega) (by omega)
set_option maxRecDepth 100000 in
set_option maxHeartbeats 4000000 in
theorem w_X8_formatLedger {l : Launch} {D : DT} {L : LT}  {I : IT} {K : Int32 → IT → Prop}  (h : f_X8_formatLedger  I K) : Con2 l D m_X8_formatLedger 10 [.ref 0] 30 9600 I L (Pi L K) := by
  refine Con2.of (by decide +kernel) (by simp [Value.category]) (Nat.le_of_ble_eq_true rfl) (fun X hX hT => ?_)
  have hX : OK X D cX8_formatLedger "TeaHouse" 1 := hX
  have hT : RT X l D (some .int) (P2 (Pi L K)) 10 30 9600 := hT
  have hR := hT.room
  change J2 X D 1 0 0 I L 0 [.ref 0] []
  rw [f_X8_formatLedger] at h
  refine q_aload_n hX dX8_formatLedger_0 rfl ?_
  refine q_getR hX gf_X8_43 rfl dX8_formatLedger_1 (at_of (n := 0) rfl) (b := 60) rfl ?_
  refine q_iconst hX dX8_formatLedger_4 (v := (nI 0)) (by decide) ?_
  refine q_V_v hX hR (w_J4_setLength_d00df  h) lk_X8_286 (rc2_of (ci := 1) rfl rfl) dX8_formatLedger_5 rfl rfl (Nat.le_of_ble_eq_true rfl) (by omega) (by omega) (by omega) ?_
  intro I1 h
  refine q_aload_n hX dX8_formatLedger_8 rfl ?_
  refine q_getR hX gf_X8_12 rfl dX8_formatLedger_9 (at_of (n := 0) rfl) (b := 1) rfl ?_
  refine q_getR hX gf_X8_216 rfl dX8_formatLedger_12 (at_of (n := 0) rfl) (b := 14) rfl ?_
  refine q_aload_n hX dX8_formatLedger_15 rfl ?_
  refine q_getR hX gf_X8_43 rfl dX8_formatLedger_16 (at_of (n := 0) rfl) (b := 60) rfl ?_
  refine q_V_v hX hR (w_X4_describe (led_n (a := 14) rfl) h) lk_X8_297 (rc2_of (ci := 7) rfl rfl) dX8_formatLedger_19 rfl rfl (Nat.le_of_ble_eq_true rfl) (by omega) (by omega) (by omega) ?_
  intro I2 h
  refine q_aload_n hX dX8_formatLedger_22 rfl ?_
  refine q_getR hX gf_X8_43 rfl dX8_formatLedger_23 (at_of (n := 0) rfl) (b := 60) rfl ?_
  refine q_V_ip hX hR (w_J4_length_8abf5  h) lk_X8_293 (rc2_of (ci := 1) rfl rfl) dX8_formatLedger_26 rfl rfl (Nat.le_of_ble_eq_true rfl) (by omega) (by omega) (by omega) ?_
  intro x3 h
  exact q_iret hX hT dX8_formatLedger_29 h (by omega) (by omega)
set_option maxRecDepth 100000 in
set_option maxHeartbeats 4000000 in
theorem w_X8_lineChar_b15 {X : XT} {D : DT} {l : Launch} {L : LT} {a1 : Int32} {I : IT} {K : Int32 → Prop} {KT : String → Prop} (hf : l.stackTraces = false) (hX : OK X D cX8_lineChar "TeaHouse" 2) (hT : RT X l D (some .char) (P2 (Px (Pc L (fun x I' => I' = I ∧ K x)) L (fun E I' => I' = I ∧ KT E))) 9 1 6)   : ∀ {c w : Nat}, c + (1) ≤ 1 → w + (6) ≤ 6 → f_X8_lineChar_b15 a1 I K KT  → J2 X D 2 c w I L 15 [.retAddr 0, .retAddr 0] [] := by
  have hR := hT.room
  intro c w hc hw h
  rw [f_X8_lineChar_b15] at h
  exact q_throwWp hX hT hf th_226 (text := "the line has no such character") (code := 59) (by decide +kernel) dX8_lineChar_15 dX8_lineChar_18 dX8_lineChar_19 dX8_lineChar_22 dX8_lineChar_25 (by decide) (by omega) h (by omega) (by omega)
set_option maxRecDepth 100000 in
set_option maxHeartbeats 4000000 in
theorem w_X8_lineChar {l : Launch} {D : DT} {L : LT} {a1 : Int32} {I : IT} {K : Int32 → Prop} {KT : String → Prop} (hf : l.stackTraces = false)  (h : f_X8_lineChar a1 I K KT) : Con2 l D m_X8_lineChar 9 [.ref 0, .int a1] 1 6 I L (Px (Pc L (fun x I' => I' = I ∧ K x)) L (fun E I' => I' = I ∧ KT E)) := by
  refine Con2.of (by decide +kernel) (by simp [Value.category]) (Nat.le_of_ble_eq_true rfl) (fun X hX hT => ?_)
  have hX : OK X D cX8_lineChar "TeaHouse" 2 := hX
  have hT : RT X l D (some .char) (P2 (Px (Pc L (fun x I' => I' = I ∧ K x)) L (fun E I' => I' = I ∧ KT E))) 9 1 6 := hT
  have hR := hT.room
  change J2 X D 2 0 0 I L 0 [.ref 0, .int a1] []
  rw [f_X8_lineChar] at h
  refine q_iload_n hX dX8_lineChar_0 rfl ?_
  refine q_if_lt hX dX8_lineChar_1 (tgt := 15) (by decide) (fun q1 => ?_) (fun q1 => ?_)
  · replace h := ite_t q1 h
    exact q_dr (w_X8_lineChar_b15 hf hX hT     (by omega) (by omega)   h) ⟨Or.inr rfl, Or.inr rfl, trivial⟩
  · replace h := ite_f q1 h
    refine q_iload_n hX dX8_lineChar_4 rfl ?_
    refine q_aload_n hX dX8_lineChar_5 rfl ?_
    refine q_getR hX gf_X8_43 rfl dX8_lineChar_6 (at_of (n := 0) rfl) (b := 60) rfl ?_
    refine q_V_ip hX hR (w_J4_length_8abf5  h) lk_X8_293 (rc2_of (ci := 1) rfl rfl) dX8_lineChar_9 rfl rfl (Nat.le_of_ble_eq_true rfl) (by omega) (by omega) (by omega) ?_
    intro x2 h
    refine q_icmp_lt hX dX8_lineChar_12 (tgt := 26) (by decide) (fun q3 => ?_) (fun q3 => ?_)
    · replace h := ite_t q3 h
      refine q_aload_n hX dX8_lineChar_26 rfl ?_
      refine q_getR hX gf_X8_43 rfl dX8_lineChar_27 (at_of (n := 0) rfl) (b := 60) rfl ?_
      refine q_iload_n hX dX8_lineChar_30 rfl ?_
      refine q_V_cp hX hR (w_J4_charAt_5068e  h) lk_X8_302 (rc2_of (ci := 1) rfl rfl) dX8_lineChar_31 rfl rfl (Nat.le_of_ble_eq_true rfl) (by omega) (by omega) (by omega) ?_
      intro x4 hrx4 h
      exact q_x_cretp hX hT dX8_lineChar_34 hrx4 h (by omega) (by omega)
    · replace h := ite_f q3 h
      exact q_dr (w_X8_lineChar_b15 hf hX hT     (by omega) (by omega)   h) ⟨Or.inr rfl, Or.inr rfl, trivial⟩
set_option maxRecDepth 100000 in
set_option maxHeartbeats 4000000 in
theorem w_X8_undoableCount {l : Launch} {D : DT} {L : LT}  {I : IT} {K : Int32 → Prop}  (h : f_X8_undoableCount  I K) : Con2 l D m_X8_undoableCount 1 [.ref 0] 0 0 I L (Pi L (fun x I' => I' = I ∧ K x)) := by
  refine Con2.of (by decide +kernel) (by simp [Value.category]) (Nat.le_of_ble_eq_true rfl) (fun X hX hT => ?_)
  have hX : OK X D cX8_undoableCount "TeaHouse" 1 := hX
  have hT : RT X l D (some .int) (P2 (Pi L (fun x I' => I' = I ∧ K x))) 1 0 0 := hT
  have hR := hT.room
  change J2 X D 1 0 0 I L 0 [.ref 0] []
  rw [f_X8_undoableCount] at h
  refine q_aload_n hX dX8_undoableCount_0 rfl ?_
  refine q_getI hX gf_X8_51 rfl dX8_undoableCount_1 (at_of (n := 0) rfl) ?_
  exact q_iretp hX hT dX8_undoableCount_4 h
