set_option maxRecDepth 100000 in
set_option maxHeartbeats 4000000 in
theorem w_X3_rankOf_b4 {X : XT} {D : DT} {l : Launch} {L : LT} {a0 : Nat} {a1 : Int32} {I : IT} {K : Int32 → Prop} (hX : OK X D cX3_rankOf "TeaHouse$Kettles" 4) (hT : RT X l D (some .int) (P2 (Pi L (fun x I' => I' = I ∧ K x))) 2 0 0) (ha0 : isKet a0)  : ∀ (n : Nat), ∀ (v2 : Int32) (v3 : Int32), f_X3_rankOf_b4 a0 a1 I K n v2 v3 → J2 X D 4 0 0 I L 4 [.ref a0, .int a1, .int v2, .int v3] [] := by
  have hR := hT.room
  intro n
  induction n with
  | zero => intro v2 v3 h; exact False.elim h
  | succ n ih =>
    intro v2 v3 h
    rw [f_X3_rankOf_b4] at h
    refine q_iload_n hX dX3_rankOf_4 rfl ?_
    refine q_aload_n hX dX3_rankOf_5 rfl ?_
    refine q_getI hX gf_X3_28 rfl dX3_rankOf_6 (at_KET ha0) ?_
    refine q_icmp_ge hX dX3_rankOf_9 (tgt := 30) (by decide) (fun q1 => ?_) (fun q1 => ?_)
    · replace h := ite_t q1 h
      refine q_iload_n hX dX3_rankOf_30 rfl ?_
      exact q_iretp hX hT dX3_rankOf_31 h
    · replace h := ite_f q1 h
      refine q_aload_n hX dX3_rankOf_12 rfl ?_
      refine q_iload_n hX dX3_rankOf_13 rfl ?_
      refine q_iload_n hX dX3_rankOf_14 rfl ?_
      refine q_V_zp hX hR (w_X3_isAhead ha0 h) lk_X3_51 (rc2_KET ha0) dX3_rankOf_15 rfl rfl (Nat.le_of_ble_eq_true rfl) (by omega) (by omega) (by omega) ?_
      intro x2 hrx2 h
      refine q_if_eq hX dX3_rankOf_18 (tgt := 24) (by decide) (fun q3 => ?_) (fun q3 => ?_)
      · replace h := ite_t q3 h
        replace h := bnd_e h
        refine q_iinc hX dX3_rankOf_24 (by decide) rfl (v := _ + nI 1) (ls' := [_, _, _, _]) rfl rfl ?_
        refine q_goto hX dX3_rankOf_27 (tgt := 4) (by decide) ?_
        exact q_dr (ih _ _  h) ⟨Or.inl rfl, Or.inl rfl, Or.inl rfl, Or.inl rfl, trivial⟩
      · replace h := ite_f q3 h
        replace h := bnd_e h
        refine q_iinc hX dX3_rankOf_21 (by decide) rfl (v := _ + nI 1) (ls' := [_, _, _, _]) rfl rfl ?_
        replace h := bnd_e h
        refine q_iinc hX dX3_rankOf_24 (by decide) rfl (v := _ + nI 1) (ls' := [_, _, _, _]) rfl rfl ?_
        refine q_goto hX dX3_rankOf_27 (tgt := 4) (by decide) ?_
        exact q_dr (ih _ _  h) ⟨Or.inl rfl, Or.inl rfl, Or.inl rfl, Or.inl rfl, trivial⟩
set_option maxRecDepth 100000 in
set_option maxHeartbeats 4000000 in
theorem w_X3_rankOf {l : Launch} {D : DT} {L : LT} {a0 : Nat} {a1 : Int32} {I : IT} {K : Int32 → Prop} (ha0 : isKet a0) (h : f_X3_rankOf a0 a1 I K) : Con2 l D m_X3_rankOf 2 [.ref a0, .int a1] 0 0 I L (Pi L (fun x I' => I' = I ∧ K x)) := by
  refine Con2.of (by decide +kernel) (by simp [Value.category]) (Nat.le_of_ble_eq_true rfl) (fun X hX hT => ?_)
  have hX : OK X D cX3_rankOf "TeaHouse$Kettles" 4 := hX
  have hT : RT X l D (some .int) (P2 (Pi L (fun x I' => I' = I ∧ K x))) 2 0 0 := hT
  have hR := hT.room
  change J2 X D 4 0 0 I L 0 [.ref a0, .int a1, .retAddr 0, .retAddr 0] []
  rw [f_X3_rankOf] at h
  refine q_iconst hX dX3_rankOf_0 (v := (nI 0)) (by decide) ?_
  refine q_istore_n hX dX3_rankOf_1 (by decide) (ls' := [_, _, _, _]) rfl ?_
  refine q_iconst hX dX3_rankOf_2 (v := (nI 0)) (by decide) ?_
  refine q_istore_n hX dX3_rankOf_3 (by decide) (ls' := [_, _, _, _]) rfl ?_
  exact q_dr (w_X3_rankOf_b4 hX hT ha0  _  _ _  h) ⟨Or.inl rfl, Or.inl rfl, Or.inl rfl, Or.inl rfl, trivial⟩
set_option maxRecDepth 100000 in
set_option maxHeartbeats 4000000 in
theorem w_X3_ranked_b2 {X : XT} {D : DT} {l : Launch} {L : LT} {a0 : Nat} {a1 : Int32} {I : IT} {K : Int32 → Prop} (hX : OK X D cX3_ranked "TeaHouse$Kettles" 3) (hT : RT X l D (some .int) (P2 (Pi L (fun x I' => I' = I ∧ K x))) 3 0 0) (ha0 : isKet a0)  : ∀ (n : Nat), ∀ (v2 : Int32), f_X3_ranked_b2 a0 a1 I K n v2 → J2 X D 3 0 0 I L 2 [.ref a0, .int a1, .int v2] [] := by
  have hR := hT.room
  intro n
  induction n with
  | zero => intro v2 h; exact False.elim h
  | succ n ih =>
    intro v2 h
    rw [f_X3_ranked_b2] at h
    refine q_iload_n hX dX3_ranked_2 rfl ?_
    refine q_aload_n hX dX3_ranked_3 rfl ?_
    refine q_getI hX gf_X3_28 rfl dX3_ranked_4 (at_KET ha0) ?_
    refine q_icmp_ge hX dX3_ranked_7 (tgt := 27) (by decide) (fun q1 => ?_) (fun q1 => ?_)
    · replace h := ite_t q1 h
      refine q_iconst hX dX3_ranked_27 (v := (-1)) (by decide) ?_
      exact q_iretp hX hT dX3_ranked_28 h
    · replace h := ite_f q1 h
      refine q_aload_n hX dX3_ranked_10 rfl ?_
      refine q_iload_n hX dX3_ranked_11 rfl ?_
      refine q_V_ip hX hR (w_X3_rankOf ha0 h) lk_X3_48 (rc2_KET ha0) dX3_ranked_12 rfl rfl (Nat.le_of_ble_eq_true rfl) (by omega) (by omega) (by omega) ?_
      intro x2 h
      refine q_iload_n hX dX3_ranked_15 rfl ?_
      refine q_icmp_ne hX dX3_ranked_16 (tgt := 21) (by decide) (fun q3 => ?_) (fun q3 => ?_)
      · replace h := ite_f q3 h
        replace h := bnd_e h
        refine q_iinc hX dX3_ranked_21 (by decide) rfl (v := _ + nI 1) (ls' := [_, _, _]) rfl rfl ?_
        refine q_goto hX dX3_ranked_24 (tgt := 2) (by decide) ?_
        exact q_dr (ih _  h) ⟨Or.inl rfl, Or.inl rfl, Or.inl rfl, trivial⟩
      · replace h := ite_t q3 h
        refine q_iload_n hX dX3_ranked_19 rfl ?_
        exact q_iretp hX hT dX3_ranked_20 h
set_option maxRecDepth 100000 in
set_option maxHeartbeats 4000000 in
theorem w_X3_ranked {l : Launch} {D : DT} {L : LT} {a0 : Nat} {a1 : Int32} {I : IT} {K : Int32 → Prop} (ha0 : isKet a0) (h : f_X3_ranked a0 a1 I K) : Con2 l D m_X3_ranked 3 [.ref a0, .int a1] 0 0 I L (Pi L (fun x I' => I' = I ∧ K x)) := by
  refine Con2.of (by decide +kernel) (by simp [Value.category]) (Nat.le_of_ble_eq_true rfl) (fun X hX hT => ?_)
  have hX : OK X D cX3_ranked "TeaHouse$Kettles" 3 := hX
  have hT : RT X l D (some .int) (P2 (Pi L (fun x I' => I' = I ∧ K x))) 3 0 0 := hT
  have hR := hT.room
  change J2 X D 3 0 0 I L 0 [.ref a0, .int a1, .retAddr 0] []
  rw [f_X3_ranked] at h
  refine q_iconst hX dX3_ranked_0 (v := (nI 0)) (by decide) ?_
  refine q_istore_n hX dX3_ranked_1 (by decide) (ls' := [_, _, _]) rfl ?_
  exact q_dr (w_X3_ranked_b2 hX hT ha0  _  _  h) ⟨Or.inl rfl, Or.inl rfl, Or.inl rfl, trivial⟩
set_option maxRecDepth 100000 in
set_option maxHeartbeats 4000000 in
theorem w_X3_isRankedOnceEach_b4 {X : XT} {D : DT} {l : Launch} {L : LT} {a0 : Nat} {I : IT} {K : Int32 → Prop} (hX : OK X D cX3_isRankedOnceEach "TeaHouse$Kettles" 4) (hT : RT X l D (some .boolean) (P2 (Pz L (fun x I' => I' = I ∧ K x))) 4 0 0) (ha0 : isKet a0)  : ∀ (n : Nat), ∀ (v1 : Int32) (v2 : Int32), f_X3_isRankedOnceEach_b4 a0 I K n v1 v2 → J2 X D 4 0 0 I L 4 [.ref a0, .int v1, .int v2, .retAddr 0] [] := by
  have hR := hT.room
  intro n
  induction n with
  | zero => intro v1 v2 h; exact False.elim h
  | succ n ih =>
    intro v1 v2 h
    rw [f_X3_isRankedOnceEach_b4] at h
    refine q_iload_n hX dX3_isRankedOnceEach_4 rfl ?_
    refine q_aload_n hX dX3_isRankedOnceEach_5 rfl ?_
    refine q_getI hX gf_X3_28 rfl dX3_isRankedOnceEach_6 (at_KET ha0) ?_
    refine q_icmp_ge hX dX3_isRankedOnceEach_9 (tgt := 48) (by decide) (fun q1 => ?_) (fun q1 => ?_)
    · replace h := ite_t q1 h
      refine q_iconst hX dX3_isRankedOnceEach_48 (v := (nI 1)) (by decide) ?_
      exact q_zretp hX hT dX3_isRankedOnceEach_49 (Or.inr rfl) h
    · replace h := ite_f q1 h
      refine q_aload_n hX dX3_isRankedOnceEach_12 rfl ?_
      refine q_iload_n hX dX3_isRankedOnceEach_13 rfl ?_
      refine q_V_ip hX hR (w_X3_ranked ha0 h) lk_X3_55 (rc2_KET ha0) dX3_isRankedOnceEach_14 rfl rfl (Nat.le_of_ble_eq_true rfl) (by omega) (by omega) (by omega) ?_
      intro x2 h
      refine q_istore_n hX dX3_isRankedOnceEach_17 (by decide) (ls' := [_, _, _, _]) rfl ?_
      refine q_aload_n hX dX3_isRankedOnceEach_18 rfl ?_
      refine q_iload_n hX dX3_isRankedOnceEach_19 rfl ?_
      refine q_V_zp hX hR (w_X3_has ha0 h) lk_X3_58 (rc2_KET ha0) dX3_isRankedOnceEach_20 rfl rfl (Nat.le_of_ble_eq_true rfl) (by omega) (by omega) (by omega) ?_
      intro x3 hrx3 h
      refine q_if_eq hX dX3_isRankedOnceEach_23 (tgt := 34) (by decide) (fun q4 => ?_) (fun q4 => ?_)
      · replace h := ite_t q4 h
        refine q_iconst hX dX3_isRankedOnceEach_34 (v := (nI 0)) (by decide) ?_
        exact q_zretp hX hT dX3_isRankedOnceEach_35 (Or.inl rfl) h
      · replace h := ite_f q4 h
        refine q_iload_n hX dX3_isRankedOnceEach_26 rfl ?_
        refine q_iconst hX dX3_isRankedOnceEach_27 (v := (nI 1)) (by decide) ?_
        refine q_iload_n hX dX3_isRankedOnceEach_28 rfl ?_
        refine q_ishl hX dX3_isRankedOnceEach_29 ?_
        refine q_iand hX dX3_isRankedOnceEach_30 ?_
        refine q_if_eq hX dX3_isRankedOnceEach_31 (tgt := 36) (by decide) (fun q5 => ?_) (fun q5 => ?_)
        · replace h := ite_t q5 h
          refine q_iload_n hX dX3_isRankedOnceEach_36 rfl ?_
          refine q_iconst hX dX3_isRankedOnceEach_37 (v := (nI 1)) (by decide) ?_
          refine q_iload_n hX dX3_isRankedOnceEach_38 rfl ?_
          refine q_ishl hX dX3_isRankedOnceEach_39 ?_
          refine q_ior hX dX3_isRankedOnceEach_40 ?_
          replace h := bnd_e h
          refine q_istore_n hX dX3_isRankedOnceEach_41 (by decide) (ls' := [_, _, _, _]) rfl ?_
          replace h := bnd_e h
          refine q_iinc hX dX3_isRankedOnceEach_42 (by decide) rfl (v := _ + nI 1) (ls' := [_, _, _, _]) rfl rfl ?_
          refine q_goto hX dX3_isRankedOnceEach_45 (tgt := 4) (by decide) ?_
          exact q_dr (ih _ _  h) ⟨Or.inl rfl, Or.inl rfl, Or.inl rfl, Or.inr rfl, trivial⟩
        · replace h := ite_f q5 h
          refine q_iconst hX dX3_isRankedOnceEach_34 (v := (nI 0)) (by decide) ?_
          exact q_zretp hX hT dX3_isRankedOnceEach_35 (Or.inl rfl) h
set_option maxRecDepth 100000 in
set_option maxHeartbeats 4000000 in
theorem w_X3_isRankedOnceEach {l : Launch} {D : DT} {L : LT} {a0 : Nat} {I : IT} {K : Int32 → Prop} (ha0 : isKet a0) (h : f_X3_isRankedOnceEach a0 I K) : Con2 l D m_X3_isRankedOnceEach 4 [.ref a0] 0 0 I L (Pz L (fun x I' => I' = I ∧ K x)) := by
  refine Con2.of (by decide +kernel) (by simp [Value.category]) (Nat.le_of_ble_eq_true rfl) (fun X hX hT => ?_)
  have hX : OK X D cX3_isRankedOnceEach "TeaHouse$Kettles" 4 := hX
  have hT : RT X l D (some .boolean) (P2 (Pz L (fun x I' => I' = I ∧ K x))) 4 0 0 := hT
  have hR := hT.room
  change J2 X D 4 0 0 I L 0 [.ref a0, .retAddr 0, .retAddr 0, .retAddr 0] []
  rw [f_X3_isRankedOnceEach] at h
  refine q_iconst hX dX3_isRankedOnceEach_0 (v := (nI 0)) (by decide) ?_
  refine q_istore_n hX dX3_isRankedOnceEach_1 (by decide) (ls' := [_, _, _, _]) rfl ?_
  refine q_iconst hX dX3_isRankedOnceEach_2 (v := (nI 0)) (by decide) ?_
  refine q_istore_n hX dX3_isRankedOnceEach_3 (by decide) (ls' := [_, _, _, _]) rfl ?_
  exact q_dr (w_X3_isRankedOnceEach_b4 hX hT ha0  _  _ _  h) ⟨Or.inl rfl, Or.inl rfl, Or.inl rfl, Or.inl rfl, trivial⟩
set_option maxRecDepth 100000 in
set_option maxHeartbeats 4000000 in
theorem w_X3_totalVolume_b4 {X : XT} {D : DT} {l : Launch} {L : LT} {a0 : Nat} {I : IT} {K : Int32 → Prop} (hX : OK X D cX3_totalVolume "TeaHouse$Kettles" 3) (hT : RT X l D (some .int) (P2 (Pi L (fun x I' => I' = I ∧ K x))) 1 0 0) (ha0 : isKet a0)  : ∀ (n : Nat), ∀ (v1 : Int32) (v2 : Int32), f_X3_totalVolume_b4 a0 I K n v1 v2 → J2 X D 3 0 0 I L 4 [.ref a0, .int v1, .int v2] [] := by
  have hR := hT.room
  intro n
  induction n with
  | zero => intro v1 v2 h; exact False.elim h
  | succ n ih =>
    intro v1 v2 h
    rw [f_X3_totalVolume_b4] at h
    refine q_iload_n hX dX3_totalVolume_4 rfl ?_
    refine q_aload_n hX dX3_totalVolume_5 rfl ?_
    refine q_getI hX gf_X3_28 rfl dX3_totalVolume_6 (at_KET ha0) ?_
    refine q_icmp_ge hX dX3_totalVolume_9 (tgt := 27) (by decide) (fun q1 => ?_) (fun q1 => ?_)
    · replace h := ite_t q1 h
      refine q_iload_n hX dX3_totalVolume_27 rfl ?_
      exact q_iretp hX hT dX3_totalVolume_28 h
    · replace h := ite_f q1 h
      refine q_iload_n hX dX3_totalVolume_12 rfl ?_
      refine q_aload_n hX dX3_totalVolume_13 rfl ?_
      refine q_getR hX gf_X3_15 rfl dX3_totalVolume_14 (at_KET ha0) (b := (a0 + 2)) (rt_KET_1 ha0) ?_
      refine q_iload_n hX dX3_totalVolume_17 rfl ?_
      obtain ⟨z2, h⟩ := h
      refine q_iald hX dX3_totalVolume_18 (aa_KET_1 ha0) (inr_e z2) (inr_lt z2) (by decide) ?_
      refine q_iadd hX dX3_totalVolume_19 ?_
      replace h := bnd_e h
      refine q_istore_n hX dX3_totalVolume_20 (by decide) (ls' := [_, _, _]) rfl ?_
      replace h := bnd_e h
      refine q_iinc hX dX3_totalVolume_21 (by decide) rfl (v := _ + nI 1) (ls' := [_, _, _]) rfl rfl ?_
      refine q_goto hX dX3_totalVolume_24 (tgt := 4) (by decide) ?_
      exact q_dr (ih _ _  h) ⟨Or.inl rfl, Or.inl rfl, Or.inl rfl, trivial⟩
set_option maxRecDepth 100000 in
set_option maxHeartbeats 4000000 in
theorem w_X3_totalVolume {l : Launch} {D : DT} {L : LT} {a0 : Nat} {I : IT} {K : Int32 → Prop} (ha0 : isKet a0) (h : f_X3_totalVolume a0 I K) : Con2 l D m_X3_totalVolume 1 [.ref a0] 0 0 I L (Pi L (fun x I' => I' = I ∧ K x)) := by
  refine Con2.of (by decide +kernel) (by simp [Value.category]) (Nat.le_of_ble_eq_true rfl) (fun X hX hT => ?_)
  have hX : OK X D cX3_totalVolume "TeaHouse$Kettles" 3 := hX
  have hT : RT X l D (some .int) (P2 (Pi L (fun x I' => I' = I ∧ K x))) 1 0 0 := hT
  have hR := hT.room
  change J2 X D 3 0 0 I L 0 [.ref a0, .retAddr 0, .retAddr 0] []
  rw [f_X3_totalVolume] at h
  refine q_iconst hX dX3_totalVolume_0 (v := (nI 0)) (by decide) ?_
  refine q_istore_n hX dX3_totalVolume_1 (by decide) (ls' := [_, _, _]) rfl ?_
  refine q_iconst hX dX3_totalVolume_2 (v := (nI 0)) (by decide) ?_
  refine q_istore_n hX dX3_totalVolume_3 (by decide) (ls' := [_, _, _]) rfl ?_
  exact q_dr (w_X3_totalVolume_b4 hX hT ha0  _  _ _  h) ⟨Or.inl rfl, Or.inl rfl, Or.inl rfl, trivial⟩
set_option maxRecDepth 100000 in
set_option maxHeartbeats 4000000 in
theorem w_X3_describe_b87 {X : XT} {D : DT} {l : Launch} {L : LT} {a0 : Nat} {a1 : Int32} {K : IT → Prop} (hX : OK X D cX3_describe "TeaHouse$Kettles" 3) (hT : RT X l D none (P2 (Pv L K)) 9 12 3840) (ha0 : isKet a0)  : ∀ {c w : Nat}, c + (1) ≤ 12 → w + (320) ≤ 3840 → ∀ (I : IT), f_X3_describe_b87 a0 a1 K I → J2 X D 3 c w I L 87 [.ref a0, .int a1, .ref 60] [] := by
  have hR := hT.room
  intro c w hc hw I h
  rw [f_X3_describe_b87] at h
  refine q_aload_n hX dX3_describe_87 rfl ?_
  refine q_getR hX gf_X3_24 rfl dX3_describe_88 (at_KET ha0) (b := (a0 + 5)) (rt_KET_4 ha0) ?_
  refine q_iload_n hX dX3_describe_91 rfl ?_
  obtain ⟨z1, h⟩ := h
  refine q_zald hX dX3_describe_92 (aa_KET_4 ha0) (inr_e z1) (inr_lt z1) (by decide) ?_
  refine q_if_eq hX dX3_describe_93 (tgt := 103) (by decide) (fun q2 => ?_) (fun q2 => ?_)
  · replace h := ite_t q2 h
    exact q_vret hX hT dX3_describe_103 h (by omega) (by omega)
  · replace h := ite_f q2 h
    refine q_aload_n hX dX3_describe_96 rfl ?_
    refine q_bipush hX dX3_describe_97 (v := (nI 33)) (by decide) ?_
    refine q_V_a hX hR (w_J4_append_cf468 (isC_n (by decide)) h) lk_X3_62 (rc2_of (ci := 1) rfl rfl) dX3_describe_99 rfl rfl (Nat.le_of_ble_eq_true rfl) (by omega) (by omega) (by omega) ?_
    intro x3 I4 hrx3 h
    obtain rfl : x3 = 60 := hrx3
    refine q_pop hX dX3_describe_102 rfl ?_
    exact q_vret hX hT dX3_describe_103 h (by omega) (by omega)
set_option maxRecDepth 100000 in
set_option maxHeartbeats 4000000 in
theorem w_X3_describe {l : Launch} {D : DT} {L : LT} {a0 : Nat} {a1 : Int32} {I : IT} {K : IT → Prop} (ha0 : isKet a0) (h : f_X3_describe a0 a1 I K) : Con2 l D m_X3_describe 9 [.ref a0, .int a1, .ref 60] 12 3840 I L (Pv L K) := by
  refine Con2.of (by decide +kernel) (by simp [Value.category]) (Nat.le_of_ble_eq_true rfl) (fun X hX hT => ?_)
  have hX : OK X D cX3_describe "TeaHouse$Kettles" 3 := hX
  have hT : RT X l D none (P2 (Pv L K)) 9 12 3840 := hT
  have hR := hT.room
  change J2 X D 3 0 0 I L 0 [.ref a0, .int a1, .ref 60] []
  rw [f_X3_describe] at h
  refine q_aload_n hX dX3_describe_0 rfl ?_
  refine q_bipush hX dX3_describe_1 (v := (nI 75)) (by decide) ?_
  refine q_V_a hX hR (w_J4_append_cf468 (isC_n (by decide)) h) lk_X3_62 (rc2_of (ci := 1) rfl rfl) dX3_describe_3 rfl rfl (Nat.le_of_ble_eq_true rfl) (by omega) (by omega) (by omega) ?_
  intro x1 I2 hrx1 h
  obtain rfl : x1 = 60 := hrx1
  refine q_iload_n hX dX3_describe_6 rfl ?_
  refine q_V_a hX hR (w_J4_append_bf812  h) lk_X3_68 (rc2_of (ci := 1) rfl rfl) dX3_describe_7 rfl rfl (Nat.le_of_ble_eq_true rfl) (by omega) (by omega) (by omega) ?_
  intro x3 I4 hrx3 h
  obtain rfl : x3 = 60 := hrx3
  refine q_bipush hX dX3_describe_10 (v := (nI 32)) (by decide) ?_
  refine q_V_a hX hR (w_J4_append_cf468 (isC_n (by decide)) h) lk_X3_62 (rc2_of (ci := 1) rfl rfl) dX3_describe_12 rfl rfl (Nat.le_of_ble_eq_true rfl) (by omega) (by omega) (by omega) ?_
  intro x5 I6 hrx5 h
  obtain rfl : x5 = 60 := hrx5
  refine q_pop hX dX3_describe_15 rfl ?_
  refine q_aload_n hX dX3_describe_16 rfl ?_
  refine q_aload_n hX dX3_describe_17 rfl ?_
  refine q_getR hX gf_X3_15 rfl dX3_describe_18 (at_KET ha0) (b := (a0 + 2)) (rt_KET_1 ha0) ?_
  refine q_iload_n hX dX3_describe_21 rfl ?_
  obtain ⟨z7, h⟩ := h
  refine q_iald hX dX3_describe_22 (aa_KET_1 ha0) (inr_e z7) (inr_lt z7) (by decide) ?_
  refine q_V_a hX hR (w_J4_append_bf812  h) lk_X3_68 (rc2_of (ci := 1) rfl rfl) dX3_describe_23 rfl rfl (Nat.le_of_ble_eq_true rfl) (by omega) (by omega) (by omega) ?_
  intro x8 I9 hrx8 h
  obtain rfl : x8 = 60 := hrx8
  refine q_bipush hX dX3_describe_26 (v := (nI 47)) (by decide) ?_
  refine q_V_a hX hR (w_J4_append_cf468 (isC_n (by decide)) h) lk_X3_62 (rc2_of (ci := 1) rfl rfl) dX3_describe_28 rfl rfl (Nat.le_of_ble_eq_true rfl) (by omega) (by omega) (by omega) ?_
  intro x10 I11 hrx10 h
  obtain rfl : x10 = 60 := hrx10
  refine q_aload_n hX dX3_describe_31 rfl ?_
  refine q_getR hX gf_X3_9 rfl dX3_describe_32 (at_KET ha0) (b := (a0 + 1)) (rt_KET_0 ha0) ?_
  refine q_iload_n hX dX3_describe_35 rfl ?_
  refine q_iald hX dX3_describe_36 (aa_KET_0 ha0) (inr_e z7) (inr_lt z7) (by decide) ?_
  refine q_V_a hX hR (w_J4_append_bf812  h) lk_X3_68 (rc2_of (ci := 1) rfl rfl) dX3_describe_37 rfl rfl (Nat.le_of_ble_eq_true rfl) (by omega) (by omega) (by omega) ?_
  intro x12 I13 hrx12 h
  obtain rfl : x12 = 60 := hrx12
  refine q_bipush hX dX3_describe_40 (v := (nI 32)) (by decide) ?_
  refine q_V_a hX hR (w_J4_append_cf468 (isC_n (by decide)) h) lk_X3_62 (rc2_of (ci := 1) rfl rfl) dX3_describe_42 rfl rfl (Nat.le_of_ble_eq_true rfl) (by omega) (by omega) (by omega) ?_
  intro x14 I15 hrx14 h
  obtain rfl : x14 = 60 := hrx14
  refine q_pop hX dX3_describe_45 rfl ?_
  refine q_aload_n hX dX3_describe_46 rfl ?_
  refine q_aload_n hX dX3_describe_47 rfl ?_
  refine q_getR hX gf_X3_18 rfl dX3_describe_48 (at_KET ha0) (b := (a0 + 3)) (rt_KET_2 ha0) ?_
  refine q_iload_n hX dX3_describe_51 rfl ?_
  refine q_iald hX dX3_describe_52 (aa_KET_2 ha0) (inr_e z7) (inr_lt z7) (by decide) ?_
  refine q_V_a hX hR (w_J4_append_bf812  h) lk_X3_68 (rc2_of (ci := 1) rfl rfl) dX3_describe_53 rfl rfl (Nat.le_of_ble_eq_true rfl) (by omega) (by omega) (by omega) ?_
  intro x16 I17 hrx16 h
  obtain rfl : x16 = 60 := hrx16
  refine q_bipush hX dX3_describe_56 (v := (nI 104)) (by decide) ?_
  refine q_V_a hX hR (w_J4_append_cf468 (isC_n (by decide)) h) lk_X3_62 (rc2_of (ci := 1) rfl rfl) dX3_describe_58 rfl rfl (Nat.le_of_ble_eq_true rfl) (by omega) (by omega) (by omega) ?_
  intro x18 I19 hrx18 h
  obtain rfl : x18 = 60 := hrx18
  refine q_pop hX dX3_describe_61 rfl ?_
  refine q_aload_n hX dX3_describe_62 rfl ?_
  refine q_getR hX gf_X3_21 rfl dX3_describe_63 (at_KET ha0) (b := (a0 + 4)) (rt_KET_3 ha0) ?_
  refine q_iload_n hX dX3_describe_66 rfl ?_
  refine q_iald hX dX3_describe_67 (aa_KET_3 ha0) (inr_e z7) (inr_lt z7) (by decide) ?_
  refine q_if_le hX dX3_describe_68 (tgt := 87) (by decide) (fun q20 => ?_) (fun q20 => ?_)
  · replace h := ite_t q20 h
    exact q_dr (w_X3_describe_b87 hX hT ha0    (by omega) (by omega) _  h) ⟨Or.inl rfl, Or.inl rfl, Or.inl rfl, trivial⟩
  · replace h := ite_f q20 h
    refine q_aload_n hX dX3_describe_71 rfl ?_
    refine q_ldcS hX (tx := " b") (code := 53) (by decide +kernel) dX3_describe_72 ?_
    refine q_V_a hX hR (w_J4_append_15ec4 (str_n (a := 1000053) rfl) h) lk_X3_73 (rc2_of (ci := 1) rfl rfl) dX3_describe_74 rfl rfl (Nat.le_of_ble_eq_true rfl) (by omega) (by omega) (by omega) ?_
    intro x21 I22 hrx21 h
    obtain rfl : x21 = 60 := hrx21
    refine q_aload_n hX dX3_describe_77 rfl ?_
    refine q_getR hX gf_X3_21 rfl dX3_describe_78 (at_KET ha0) (b := (a0 + 4)) (rt_KET_3 ha0) ?_
    refine q_iload_n hX dX3_describe_81 rfl ?_
    refine q_iald hX dX3_describe_82 (aa_KET_3 ha0) (inr_e z7) (inr_lt z7) (by decide) ?_
    refine q_V_a hX hR (w_J4_append_bf812  h) lk_X3_68 (rc2_of (ci := 1) rfl rfl) dX3_describe_83 rfl rfl (Nat.le_of_ble_eq_true rfl) (by omega) (by omega) (by omega) ?_
    intro x23 I24 hrx23 h
    obtain rfl : x23 = 60 := hrx23
    refine q_pop hX dX3_describe_86 rfl ?_
    exact q_dr (w_X3_describe_b87 hX hT ha0    (by omega) (by omega) _  h) ⟨Or.inl rfl, Or.inl rfl, Or.inl rfl, trivial⟩
set_option maxRecDepth 100000 in
set_option maxHeartbeats 4000000 in
theorem w_X4_rankOf_b4 {X : XT} {D : DT} {l : Launch} {L : LT} {a0 : Nat} {a1 : Int32} {I : IT} {K : Int32 → Prop} (hX : OK X D cX4_rankOf "TeaHouse$Ledger" 4) (hT : RT X l D (some .int) (P2 (Pi L (fun x I' => I' = I ∧ K x))) 1 0 0) (ha0 : isLed a0)  : ∀ (n : Nat), ∀ (v2 : Int32) (v3 : Int32), f_X4_rankOf_b4 a0 a1 I K n v2 v3 → J2 X D 4 0 0 I L 4 [.ref a0, .int a1, .int v2, .int v3] [] := by
  have hR := hT.room
  intro n
  induction n with
  | zero => intro v2 v3 h; exact False.elim h
  | succ n ih =>
    intro v2 v3 h
    rw [f_X4_rankOf_b4] at h
    refine q_iload_n hX dX4_rankOf_4 rfl ?_
    refine q_aload_n hX dX4_rankOf_5 rfl ?_
    refine q_getI hX gf_X4_18 rfl dX4_rankOf_6 (at_LED ha0) ?_
    refine q_icmp_ge hX dX4_rankOf_9 (tgt := 56) (by decide) (fun q1 => ?_) (fun q1 => ?_)
    · replace h := ite_t q1 h
      refine q_iload_n hX dX4_rankOf_56 rfl ?_
      exact q_iretp hX hT dX4_rankOf_57 h
    · replace h := ite_f q1 h
      refine q_aload_n hX dX4_rankOf_12 rfl ?_
      refine q_getR hX gf_X4_9 rfl dX4_rankOf_13 (at_LED ha0) (b := (a0 + 1)) (rt_LED_0 ha0) ?_
      refine q_iload_n hX dX4_rankOf_16 rfl ?_
      obtain ⟨z2, h⟩ := h
      refine q_iald hX dX4_rankOf_17 (aa_LED_0 ha0) (inr_e z2) (inr_lt z2) (by decide) ?_
      refine q_aload_n hX dX4_rankOf_18 rfl ?_
      refine q_getR hX gf_X4_9 rfl dX4_rankOf_19 (at_LED ha0) (b := (a0 + 1)) (rt_LED_0 ha0) ?_
      refine q_iload_n hX dX4_rankOf_22 rfl ?_
      obtain ⟨z3, h⟩ := h
      refine q_iald hX dX4_rankOf_23 (aa_LED_0 ha0) (inr_e z3) (inr_lt z3) (by decide) ?_
      refine q_icmp_gt hX dX4_rankOf_24 (tgt := 47) (by decide) (fun q4 => ?_) (fun q4 => ?_)
      · replace h := ite_t q4 h
        replace h := bnd_e h
        refine q_iinc hX dX4_rankOf_47 (by decide) rfl (v := _ + nI 1) (ls' := [_, _, _, _]) rfl rfl ?_
        replace h := bnd_e h
        refine q_iinc hX dX4_rankOf_50 (by decide) rfl (v := _ + nI 1) (ls' := [_, _, _, _]) rfl rfl ?_
        refine q_goto hX dX4_rankOf_53 (tgt := 4) (by decide) ?_
        exact q_dr (ih _ _  h) ⟨Or.inl rfl, Or.inl rfl, Or.inl rfl, Or.inl rfl, trivial⟩
      · replace h := ite_f q4 h
        refine q_aload_n hX dX4_rankOf_27 rfl ?_
        refine q_getR hX gf_X4_9 rfl dX4_rankOf_28 (at_LED ha0) (b := (a0 + 1)) (rt_LED_0 ha0) ?_
        refine q_iload_n hX dX4_rankOf_31 rfl ?_
        refine q_iald hX dX4_rankOf_32 (aa_LED_0 ha0) (inr_e z2) (inr_lt z2) (by decide) ?_
        refine q_aload_n hX dX4_rankOf_33 rfl ?_
        refine q_getR hX gf_X4_9 rfl dX4_rankOf_34 (at_LED ha0) (b := (a0 + 1)) (rt_LED_0 ha0) ?_
        refine q_iload_n hX dX4_rankOf_37 rfl ?_
        refine q_iald hX dX4_rankOf_38 (aa_LED_0 ha0) (inr_e z3) (inr_lt z3) (by decide) ?_
        refine q_icmp_ne hX dX4_rankOf_39 (tgt := 50) (by decide) (fun q7 => ?_) (fun q7 => ?_)
        · replace h := ite_f q7 h
          replace h := bnd_e h
          refine q_iinc hX dX4_rankOf_50 (by decide) rfl (v := _ + nI 1) (ls' := [_, _, _, _]) rfl rfl ?_
          refine q_goto hX dX4_rankOf_53 (tgt := 4) (by decide) ?_
          exact q_dr (ih _ _  h) ⟨Or.inl rfl, Or.inl rfl, Or.inl rfl, Or.inl rfl, trivial⟩
        · replace h := ite_t q7 h
          refine q_iload_n hX dX4_rankOf_42 rfl ?_
          refine q_iload_n hX dX4_rankOf_43 rfl ?_
          refine q_icmp_ge hX dX4_rankOf_44 (tgt := 50) (by decide) (fun q8 => ?_) (fun q8 => ?_)
          · replace h := ite_t q8 h
            replace h := bnd_e h
            refine q_iinc hX dX4_rankOf_50 (by decide) rfl (v := _ + nI 1) (ls' := [_, _, _, _]) rfl rfl ?_
            refine q_goto hX dX4_rankOf_53 (tgt := 4) (by decide) ?_
            exact q_dr (ih _ _  h) ⟨Or.inl rfl, Or.inl rfl, Or.inl rfl, Or.inl rfl, trivial⟩
          · replace h := ite_f q8 h
            replace h := bnd_e h
            refine q_iinc hX dX4_rankOf_47 (by decide) rfl (v := _ + nI 1) (ls' := [_, _, _, _]) rfl rfl ?_
            replace h := bnd_e h
            refine q_iinc hX dX4_rankOf_50 (by decide) rfl (v := _ + nI 1) (ls' := [_, _, _, _]) rfl rfl ?_
            refine q_goto hX dX4_rankOf_53 (tgt := 4) (by decide) ?_
            exact q_dr (ih _ _  h) ⟨Or.inl rfl, Or.inl rfl, Or.inl rfl, Or.inl rfl, trivial⟩
set_option maxRecDepth 100000 in
set_option maxHeartbeats 4000000 in
theorem w_X4_rankOf {l : Launch} {D : DT} {L : LT} {a0 : Nat} {a1 : Int32} {I : IT} {K : Int32 → Prop} (ha0 : isLed a0) (h : f_X4_rankOf a0 a1 I K) : Con2 l D m_X4_rankOf 1 [.ref a0, .int a1] 0 0 I L (Pi L (fun x I' => I' = I ∧ K x)) := by
  refine Con2.of (by decide +kernel) (by simp [Value.category]) (Nat.le_of_ble_eq_true rfl) (fun X hX hT => ?_)
  have hX : OK X D cX4_rankOf "TeaHouse$Ledger" 4 := hX
  have hT : RT X l D (some .int) (P2 (Pi L (fun x I' => I' = I ∧ K x))) 1 0 0 := hT
  have hR := hT.room
  change J2 X D 4 0 0 I L 0 [.ref a0, .int a1, .retAddr 0, .retAddr 0] []
  rw [f_X4_rankOf] at h
  refine q_iconst hX dX4_rankOf_0 (v := (nI 0)) (by decide) ?_
  refine q_istore_n hX dX4_rankOf_1 (by decide) (ls' := [_, _, _, _]) rfl ?_
  refine q_iconst hX dX4_rankOf_2 (v := (nI 0)) (by decide) ?_
  refine q_istore_n hX dX4_rankOf_3 (by decide) (ls' := [_, _, _, _]) rfl ?_
  exact q_dr (w_X4_rankOf_b4 hX hT ha0  _  _ _  h) ⟨Or.inl rfl, Or.inl rfl, Or.inl rfl, Or.inl rfl, trivial⟩
set_option maxRecDepth 100000 in
set_option maxHeartbeats 4000000 in
theorem w_X4_ranked_b2 {X : XT} {D : DT} {l : Launch} {L : LT} {a0 : Nat} {a1 : Int32} {I : IT} {K : Int32 → Prop} (hX : OK X D cX4_ranked "TeaHouse$Ledger" 3) (hT : RT X l D (some .int) (P2 (Pi L (fun x I' => I' = I ∧ K x))) 2 0 0) (ha0 : isLed a0)  : ∀ (n : Nat), ∀ (v2 : Int32), f_X4_ranked_b2 a0 a1 I K n v2 → J2 X D 3 0 0 I L 2 [.ref a0, .int a1, .int v2] [] := by
  have hR := hT.room
  intro n
  induction n with
  | zero => intro v2 h; exact False.elim h
  | succ n ih =>
    intro v2 h
    rw [f_X4_ranked_b2] at h
    refine q_iload_n hX dX4_ranked_2 rfl ?_
    refine q_aload_n hX dX4_ranked_3 rfl ?_
    refine q_getI hX gf_X4_18 rfl dX4_ranked_4 (at_LED ha0) ?_
    refine q_icmp_ge hX dX4_ranked_7 (tgt := 27) (by decide) (fun q1 => ?_) (fun q1 => ?_)
    · replace h := ite_t q1 h
      refine q_iconst hX dX4_ranked_27 (v := (-1)) (by decide) ?_
      exact q_iretp hX hT dX4_ranked_28 h
    · replace h := ite_f q1 h
      refine q_aload_n hX dX4_ranked_10 rfl ?_
      refine q_iload_n hX dX4_ranked_11 rfl ?_
      refine q_V_ip hX hR (w_X4_rankOf ha0 h) lk_X4_31 (rc2_LED ha0) dX4_ranked_12 rfl rfl (Nat.le_of_ble_eq_true rfl) (by omega) (by omega) (by omega) ?_
      intro x2 h
      refine q_iload_n hX dX4_ranked_15 rfl ?_
      refine q_icmp_ne hX dX4_ranked_16 (tgt := 21) (by decide) (fun q3 => ?_) (fun q3 => ?_)
      · replace h := ite_f q3 h
        replace h := bnd_e h
        refine q_iinc hX dX4_ranked_21 (by decide) rfl (v := _ + nI 1) (ls' := [_, _, _]) rfl rfl ?_
        refine q_goto hX dX4_ranked_24 (tgt := 2) (by decide) ?_
        exact q_dr (ih _  h) ⟨Or.inl rfl, Or.inl rfl, Or.inl rfl, trivial⟩
      · replace h := ite_t q3 h
        refine q_iload_n hX dX4_ranked_19 rfl ?_
        exact q_iretp hX hT dX4_ranked_20 h
set_option maxRecDepth 100000 in
set_option maxHeartbeats 4000000 in
theorem w_X4_ranked {l : Launch} {D : DT} {L : LT} {a0 : Nat} {a1 : Int32} {I : IT} {K : Int32 → Prop} (ha0 : isLed a0) (h : f_X4_ranked a0 a1 I K) : Con2 l D m_X4_ranked 2 [.ref a0, .int a1] 0 0 I L (Pi L (fun x I' => I' = I ∧ K x)) := by
  refine Con2.of (by decide +kernel) (by simp [Value.category]) (Nat.le_of_ble_eq_true rfl) (fun X hX hT => ?_)
  have hX : OK X D cX4_ranked "TeaHouse$Ledger" 3 := hX
  have hT : RT X l D (some .int) (P2 (Pi L (fun x I' => I' = I ∧ K x))) 2 0 0 := hT
  have hR := hT.room
  change J2 X D 3 0 0 I L 0 [.ref a0, .int a1, .retAddr 0] []
  rw [f_X4_ranked] at h
  refine q_iconst hX dX4_ranked_0 (v := (nI 0)) (by decide) ?_
  refine q_istore_n hX dX4_ranked_1 (by decide) (ls' := [_, _, _]) rfl ?_
  exact q_dr (w_X4_ranked_b2 hX hT ha0  _  _  h) ⟨Or.inl rfl, Or.inl rfl, Or.inl rfl, trivial⟩
set_option maxRecDepth 100000 in
set_option maxHeartbeats 4000000 in
theorem w_X4_greatestByAdding_b20 {X : XT} {D : DT} {l : Launch} {L : LT} {a0 : Nat} {a1 : Int32} {I : IT} {K : Int32 → Prop} {X4 : Int32 → Int32 → Prop} (hX : OK X D cX4_greatestByAdding "TeaHouse$Ledger" 6) (hT : RT X l D (some .int) (P2 (Pi L (fun x I' => I' = I ∧ K x))) 1 0 0) (ha0 : isLed a0) (hx4 : ∀ (v2 : Int32) (v3 : Int32), X4 v2 v3 → J2 X D 6 0 0 I L 4 [.ref a0, .int a1, .int v2, .int v3, .retAddr 0, .retAddr 0] []) : ∀ (n : Nat), ∀ (v2 : Int32) (v3 : Int32) (v4 : Int32) (v5 : Int32), f_X4_greatestByAdding_b20 a0 a1 I X4 K n v2 v3 v4 v5 → J2 X D 6 0 0 I L 20 [.ref a0, .int a1, .int v2, .int v3, .int v4, .int v5] [] := by
  have hR := hT.room
  intro n
  induction n with
  | zero => intro v2 v3 v4 v5 h; exact False.elim h
  | succ n ih =>
    intro v2 v3 v4 v5 h
    rw [f_X4_greatestByAdding_b20] at h
    refine q_iload hX dX4_greatestByAdding_20 rfl ?_
    refine q_iload_n hX dX4_greatestByAdding_22 rfl ?_
    refine q_iload_n hX dX4_greatestByAdding_23 rfl ?_
    refine q_iadd hX dX4_greatestByAdding_24 ?_
    refine q_icmp_ge hX dX4_greatestByAdding_25 (tgt := 46) (by decide) (fun q1 => ?_) (fun q1 => ?_)
    · replace h := ite_t q1 h
      refine q_iload_n hX dX4_greatestByAdding_46 rfl ?_
      refine q_iload hX dX4_greatestByAdding_47 rfl ?_
      refine q_max hX hR mm_X4_35 w_max1 w_math w_max2 dX4_greatestByAdding_49 (Nat.le_of_ble_eq_true rfl) (by omega) (by omega) (by omega) ?_
      replace h := bnd_e h
      refine q_istore_n hX dX4_greatestByAdding_52 (by decide) (ls' := [_, _, _, _, _, _]) rfl ?_
      replace h := bnd_e h
      refine q_iinc hX dX4_greatestByAdding_53 (by decide) rfl (v := _ + nI 1) (ls' := [_, _, _, _, _, _]) rfl rfl ?_
      refine q_goto hX dX4_greatestByAdding_56 (tgt := 4) (by decide) ?_
      exact q_dr (hx4 _ _  h) ⟨Or.inl rfl, Or.inl rfl, Or.inl rfl, Or.inl rfl, Or.inr rfl, Or.inr rfl, trivial⟩
    · replace h := ite_f q1 h
      refine q_iload hX dX4_greatestByAdding_28 rfl ?_
      refine q_aload_n hX dX4_greatestByAdding_30 rfl ?_
      refine q_getR hX gf_X4_9 rfl dX4_greatestByAdding_31 (at_LED ha0) (b := (a0 + 1)) (rt_LED_0 ha0) ?_
      refine q_iload hX dX4_greatestByAdding_34 rfl ?_
      obtain ⟨z4, h⟩ := h
      refine q_iald hX dX4_greatestByAdding_36 (aa_LED_0 ha0) (inr_e z4) (inr_lt z4) (by decide) ?_
      refine q_iadd hX dX4_greatestByAdding_37 ?_
      replace h := bnd_e h
      refine q_istore hX dX4_greatestByAdding_38 (by decide) (ls' := [_, _, _, _, _, _]) rfl ?_
      replace h := bnd_e h
      refine q_iinc hX dX4_greatestByAdding_40 (by decide) rfl (v := _ + nI 1) (ls' := [_, _, _, _, _, _]) rfl rfl ?_
      refine q_goto hX dX4_greatestByAdding_43 (tgt := 20) (by decide) ?_
      exact q_dr (ih _ _ _ _  h) ⟨Or.inl rfl, Or.inl rfl, Or.inl rfl, Or.inl rfl, Or.inl rfl, Or.inl rfl, trivial⟩
set_option maxRecDepth 100000 in
set_option maxHeartbeats 4000000 in
theorem w_X4_greatestByAdding_b4 {X : XT} {D : DT} {l : Launch} {L : LT} {a0 : Nat} {a1 : Int32} {I : IT} {K : Int32 → Prop} (hX : OK X D cX4_greatestByAdding "TeaHouse$Ledger" 6) (hT : RT X l D (some .int) (P2 (Pi L (fun x I' => I' = I ∧ K x))) 1 0 0) (ha0 : isLed a0)  : ∀ (n : Nat), ∀ (v2 : Int32) (v3 : Int32), f_X4_greatestByAdding_b4 a0 a1 I K n v2 v3 → J2 X D 6 0 0 I L 4 [.ref a0, .int a1, .int v2, .int v3, .retAddr 0, .retAddr 0] [] := by
  have hR := hT.room
  intro n
  induction n with
  | zero => intro v2 v3 h; exact False.elim h
  | succ n ih =>
    intro v2 v3 h
    rw [f_X4_greatestByAdding_b4] at h
    refine q_iload_n hX dX4_greatestByAdding_4 rfl ?_
    refine q_aload_n hX dX4_greatestByAdding_5 rfl ?_
    refine q_getI hX gf_X4_18 rfl dX4_greatestByAdding_6 (at_LED ha0) ?_
    refine q_iload_n hX dX4_greatestByAdding_9 rfl ?_
    refine q_isub hX dX4_greatestByAdding_10 ?_
    refine q_icmp_gt hX dX4_greatestByAdding_11 (tgt := 59) (by decide) (fun q1 => ?_) (fun q1 => ?_)
    · replace h := ite_t q1 h
      refine q_iload_n hX dX4_greatestByAdding_59 rfl ?_
      exact q_iretp hX hT dX4_greatestByAdding_60 h
    · replace h := ite_f q1 h
      refine q_iconst hX dX4_greatestByAdding_14 (v := (nI 0)) (by decide) ?_
      refine q_istore hX dX4_greatestByAdding_15 (by decide) (ls' := [_, _, _, _, _, _]) rfl ?_
      refine q_iload_n hX dX4_greatestByAdding_17 rfl ?_
      refine q_istore hX dX4_greatestByAdding_18 (by decide) (ls' := [_, _, _, _, _, _]) rfl ?_
      exact q_dr (w_X4_greatestByAdding_b20 hX hT ha0 (fun _ _ h => ih _ _  h) _  _ _ _ _  h) ⟨Or.inl rfl, Or.inl rfl, Or.inl rfl, Or.inl rfl, Or.inl rfl, Or.inl rfl, trivial⟩
set_option maxRecDepth 100000 in
set_option maxHeartbeats 4000000 in
theorem w_X4_greatestByAdding {l : Launch} {D : DT} {L : LT} {a0 : Nat} {a1 : Int32} {I : IT} {K : Int32 → Prop} (ha0 : isLed a0) (h : f_X4_greatestByAdding a0 a1 I K) : Con2 l D m_X4_greatestByAdding 1 [.ref a0, .int a1] 0 0 I L (Pi L (fun x I' => I' = I ∧ K x)) := by
  refine Con2.of (by decide +kernel) (by simp [Value.category]) (Nat.le_of_ble_eq_true rfl) (fun X hX hT => ?_)
  have hX : OK X D cX4_greatestByAdding "TeaHouse$Ledger" 6 := hX
  have hT : RT X l D (some .int) (P2 (Pi L (fun x I' => I' = I ∧ K x))) 1 0 0 := hT
  have hR := hT.room
  change J2 X D 6 0 0 I L 0 [.ref a0, .int a1, .retAddr 0, .retAddr 0, .retAddr 0, .retAddr 0] []
  rw [f_X4_greatestByAdding] at h
  refine q_iconst hX dX4_greatestByAdding_0 (v := (nI 0)) (by decide) ?_
  refine q_istore_n hX dX4_greatestByAdding_1 (by decide) (ls' := [_, _, _, _, _, _]) rfl ?_
  refine q_iconst hX dX4_greatestByAdding_2 (v := (nI 0)) (by decide) ?_
  refine q_istore_n hX dX4_greatestByAdding_3 (by decide) (ls' := [_, _, _, _, _, _]) rfl ?_
  exact q_dr (w_X4_greatestByAdding_b4 hX hT ha0  _  _ _  h) ⟨Or.inl rfl, Or.inl rfl, Or.inl rfl, Or.inl rfl, Or.inl rfl, Or.inl rfl, trivial⟩
set_option maxRecDepth 100000 in
set_option maxHeartbeats 4000000 in
theorem w_X4_greatestByDifferences_b4 {X : XT} {D : DT} {l : Launch} {L : LT} {a0 : Nat} {a1 : Int32} {I : IT} {K : Int32 → Prop} (hX : OK X D cX4_greatestByDifferences "TeaHouse$Ledger" 4) (hT : RT X l D (some .int) (P2 (Pi L (fun x I' => I' = I ∧ K x))) 1 0 0) (ha0 : isLed a0)  : ∀ (n : Nat), ∀ (v2 : Int32) (v3 : Int32), f_X4_greatestByDifferences_b4 a0 a1 I K n v2 v3 → J2 X D 4 0 0 I L 4 [.ref a0, .int a1, .int v2, .int v3] [] := by
  have hR := hT.room
  intro n
  induction n with
  | zero => intro v2 v3 h; exact False.elim h
  | succ n ih =>
    intro v2 v3 h
    rw [f_X4_greatestByDifferences_b4] at h
    refine q_iload_n hX dX4_greatestByDifferences_4 rfl ?_
    refine q_aload_n hX dX4_greatestByDifferences_5 rfl ?_
    refine q_getI hX gf_X4_18 rfl dX4_greatestByDifferences_6 (at_LED ha0) ?_
    refine q_iload_n hX dX4_greatestByDifferences_9 rfl ?_
    refine q_isub hX dX4_greatestByDifferences_10 ?_
    refine q_icmp_gt hX dX4_greatestByDifferences_11 (tgt := 40) (by decide) (fun q1 => ?_) (fun q1 => ?_)
    · replace h := ite_t q1 h
      refine q_iload_n hX dX4_greatestByDifferences_40 rfl ?_
      exact q_iretp hX hT dX4_greatestByDifferences_41 h
    · replace h := ite_f q1 h
      refine q_iload_n hX dX4_greatestByDifferences_14 rfl ?_
      refine q_aload_n hX dX4_greatestByDifferences_15 rfl ?_
      refine q_getR hX gf_X4_15 rfl dX4_greatestByDifferences_16 (at_LED ha0) (b := (a0 + 2)) (rt_LED_1 ha0) ?_
      refine q_iload_n hX dX4_greatestByDifferences_19 rfl ?_
      refine q_iload_n hX dX4_greatestByDifferences_20 rfl ?_
      refine q_iadd hX dX4_greatestByDifferences_21 ?_
      obtain ⟨z2, h⟩ := h
      refine q_iald hX dX4_greatestByDifferences_22 (aa_LED_1 ha0) (inr_e z2) (inr_lt z2) (by decide) ?_
      refine q_aload_n hX dX4_greatestByDifferences_23 rfl ?_
      refine q_getR hX gf_X4_15 rfl dX4_greatestByDifferences_24 (at_LED ha0) (b := (a0 + 2)) (rt_LED_1 ha0) ?_
      refine q_iload_n hX dX4_greatestByDifferences_27 rfl ?_
      obtain ⟨z3, h⟩ := h
      refine q_iald hX dX4_greatestByDifferences_28 (aa_LED_1 ha0) (inr_e z3) (inr_lt z3) (by decide) ?_
      refine q_isub hX dX4_greatestByDifferences_29 ?_
      refine q_max hX hR mm_X4_35 w_max1 w_math w_max2 dX4_greatestByDifferences_30 (Nat.le_of_ble_eq_true rfl) (by omega) (by omega) (by omega) ?_
      replace h := bnd_e h
      refine q_istore_n hX dX4_greatestByDifferences_33 (by decide) (ls' := [_, _, _, _]) rfl ?_
      replace h := bnd_e h
      refine q_iinc hX dX4_greatestByDifferences_34 (by decide) rfl (v := _ + nI 1) (ls' := [_, _, _, _]) rfl rfl ?_
      refine q_goto hX dX4_greatestByDifferences_37 (tgt := 4) (by decide) ?_
      exact q_dr (ih _ _  h) ⟨Or.inl rfl, Or.inl rfl, Or.inl rfl, Or.inl rfl, trivial⟩
set_option maxRecDepth 100000 in
set_option maxHeartbeats 4000000 in
theorem w_X4_greatestByDifferences {l : Launch} {D : DT} {L : LT} {a0 : Nat} {a1 : Int32} {I : IT} {K : Int32 → Prop} (ha0 : isLed a0) (h : f_X4_greatestByDifferences a0 a1 I K) : Con2 l D m_X4_greatestByDifferences 1 [.ref a0, .int a1] 0 0 I L (Pi L (fun x I' => I' = I ∧ K x)) := by
  refine Con2.of (by decide +kernel) (by simp [Value.category]) (Nat.le_of_ble_eq_true rfl) (fun X hX hT => ?_)
  have hX : OK X D cX4_greatestByDifferences "TeaHouse$Ledger" 4 := hX
  have hT : RT X l D (some .int) (P2 (Pi L (fun x I' => I' = I ∧ K x))) 1 0 0 := hT
  have hR := hT.room
  change J2 X D 4 0 0 I L 0 [.ref a0, .int a1, .retAddr 0, .retAddr 0] []
  rw [f_X4_greatestByDifferences] at h
  refine q_iconst hX dX4_greatestByDifferences_0 (v := (nI 0)) (by decide) ?_
  refine q_istore_n hX dX4_greatestByDifferences_1 (by decide) (ls' := [_, _, _, _]) rfl ?_
  refine q_iconst hX dX4_greatestByDifferences_2 (v := (nI 0)) (by decide) ?_
  refine q_istore_n hX dX4_greatestByDifferences_3 (by decide) (ls' := [_, _, _, _]) rfl ?_
  exact q_dr (w_X4_greatestByDifferences_b4 hX hT ha0  _  _ _  h) ⟨Or.inl rfl, Or.inl rfl, Or.inl rfl, Or.inl rfl, trivial⟩
set_option maxRecDepth 100000 in
set_option maxHeartbeats 4000000 in
theorem w_X4_totalOfNights_b7 {X : XT} {D : DT} {l : Launch} {L : LT} {a0 : Nat} {I : IT} {K : Int32 → Prop} (hX : OK X D cX4_totalOfNights "TeaHouse$Ledger" 3) (hT : RT X l D (some .int) (P2 (Pi L (fun x I' => I' = I ∧ K x))) 1 0 0) (ha0 : isLed a0)  : ∀ (n : Nat), ∀ (v1 : Int32) (v2 : Int32), f_X4_totalOfNights_b7 a0 I K n v1 v2 → J2 X D 3 0 0 I L 7 [.ref a0, .int v1, .int v2] [] := by
  have hR := hT.room
  intro n
  induction n with
  | zero => intro v1 v2 h; exact False.elim h
  | succ n ih =>
    intro v1 v2 h
    rw [f_X4_totalOfNights_b7] at h
    refine q_iload_n hX dX4_totalOfNights_7 rfl ?_
    refine q_aload_n hX dX4_totalOfNights_8 rfl ?_
    refine q_getI hX gf_X4_18 rfl dX4_totalOfNights_9 (at_LED ha0) ?_
    refine q_icmp_ge hX dX4_totalOfNights_12 (tgt := 30) (by decide) (fun q1 => ?_) (fun q1 => ?_)
    · replace h := ite_t q1 h
      refine q_iload_n hX dX4_totalOfNights_30 rfl ?_
      exact q_iretp hX hT dX4_totalOfNights_31 h
    · replace h := ite_f q1 h
      refine q_iload_n hX dX4_totalOfNights_15 rfl ?_
      refine q_aload_n hX dX4_totalOfNights_16 rfl ?_
      refine q_getR hX gf_X4_9 rfl dX4_totalOfNights_17 (at_LED ha0) (b := (a0 + 1)) (rt_LED_0 ha0) ?_
      refine q_iload_n hX dX4_totalOfNights_20 rfl ?_
      obtain ⟨z2, h⟩ := h
      refine q_iald hX dX4_totalOfNights_21 (aa_LED_0 ha0) (inr_e z2) (inr_lt z2) (by decide) ?_
      refine q_iadd hX dX4_totalOfNights_22 ?_
      replace h := bnd_e h
      refine q_istore_n hX dX4_totalOfNights_23 (by decide) (ls' := [_, _, _]) rfl ?_
      replace h := bnd_e h
      refine q_iinc hX dX4_totalOfNights_24 (by decide) rfl (v := _ + nI 1) (ls' := [_, _, _]) rfl rfl ?_
      refine q_goto hX dX4_totalOfNights_27 (tgt := 7) (by decide) ?_
      exact q_dr (ih _ _  h) ⟨Or.inl rfl, Or.inl rfl, Or.inl rfl, trivial⟩
set_option maxRecDepth 100000 in
set_option maxHeartbeats 4000000 in
theorem w_X4_totalOfNights {l : Launch} {D : DT} {L : LT} {a0 : Nat} {I : IT} {K : Int32 → Prop} (ha0 : isLed a0) (h : f_X4_totalOfNights a0 I K) : Con2 l D m_X4_totalOfNights 1 [.ref a0] 0 0 I L (Pi L (fun x I' => I' = I ∧ K x)) := by
  refine Con2.of (by decide +kernel) (by simp [Value.category]) (Nat.le_of_ble_eq_true rfl) (fun X hX hT => ?_)
  have hX : OK X D cX4_totalOfNights "TeaHouse$Ledger" 3 := hX
  have hT : RT X l D (some .int) (P2 (Pi L (fun x I' => I' = I ∧ K x))) 1 0 0 := hT
  have hR := hT.room
  change J2 X D 3 0 0 I L 0 [.ref a0, .retAddr 0, .retAddr 0] []
  rw [f_X4_totalOfNights] at h
  refine q_aload_n hX dX4_totalOfNights_0 rfl ?_
  refine q_getI hX gf_X4_22 rfl dX4_totalOfNights_1 (at_LED ha0) ?_
  replace h := bnd_e h
  refine q_istore_n hX dX4_totalOfNights_4 (by decide) (ls' := [_, _, _]) rfl ?_
  refine q_iconst hX dX4_totalOfNights_5 (v := (nI 0)) (by decide) ?_
  refine q_istore_n hX dX4_totalOfNights_6 (by decide) (ls' := [_, _, _]) rfl ?_
  exact q_dr (w_X4_totalOfNights_b7 hX hT ha0  _  _ _  h) ⟨Or.inl rfl, Or.inl rfl, Or.inl rfl, trivial⟩
set_option maxRecDepth 100000 in
set_option maxHeartbeats 4000000 in
theorem w_X4_totalOfSales {l : Launch} {D : DT} {L : LT} {a0 : Nat} {I : IT} {K : Int32 → Prop} (ha0 : isLed a0) (h : f_X4_totalOfSales a0 I K) : Con2 l D m_X4_totalOfSales 1 [.ref a0] 0 0 I L (Pi L (fun x I' => I' = I ∧ K x)) := by
  refine Con2.of (by decide +kernel) (by simp [Value.category]) (Nat.le_of_ble_eq_true rfl) (fun X hX hT => ?_)
  have hX : OK X D cX4_totalOfSales "TeaHouse$Ledger" 1 := hX
  have hT : RT X l D (some .int) (P2 (Pi L (fun x I' => I' = I ∧ K x))) 1 0 0 := hT
  have hR := hT.room
  change J2 X D 1 0 0 I L 0 [.ref a0] []
  rw [f_X4_totalOfSales] at h
  refine q_aload_n hX dX4_totalOfSales_0 rfl ?_
  refine q_getI hX gf_X4_25 rfl dX4_totalOfSales_1 (at_LED ha0) ?_
  refine q_aload_n hX dX4_totalOfSales_4 rfl ?_
  refine q_getI hX gf_X4_28 rfl dX4_totalOfSales_5 (at_LED ha0) ?_
  refine q_iadd hX dX4_totalOfSales_8 ?_
  exact q_iretp hX hT dX4_totalOfSales_9 h
set_option maxRecDepth 100000 in
set_option maxHeartbeats 4000000 in
theorem w_X4_isConsistent_b2 {X : XT} {D : DT} {l : Launch} {L : LT} {a0 : Nat} {I : IT} {K : Int32 → Prop} (hX : OK X D cX4_isConsistent "TeaHouse$Ledger" 2) (hT : RT X l D (some .boolean) (P2 (Pz L (fun x I' => I' = I ∧ K x))) 2 0 0) (ha0 : isLed a0)  : ∀ (n : Nat), ∀ (v1 : Int32), f_X4_isConsistent_b2 a0 I K n v1 → J2 X D 2 0 0 I L 2 [.ref a0, .int v1] [] := by
  have hR := hT.room
  intro n
  induction n with
  | zero => intro v1 h; exact False.elim h
  | succ n ih =>
    intro v1 h
    rw [f_X4_isConsistent_b2] at h
    refine q_iload_n hX dX4_isConsistent_2 rfl ?_
    refine q_aload_n hX dX4_isConsistent_3 rfl ?_
    refine q_getI hX gf_X4_18 rfl dX4_isConsistent_4 (at_LED ha0) ?_
    refine q_icmp_gt hX dX4_isConsistent_7 (tgt := 31) (by decide) (fun q1 => ?_) (fun q1 => ?_)
    · replace h := ite_t q1 h
      refine q_aload_n hX dX4_isConsistent_31 rfl ?_
      refine q_V_ip hX hR (w_X4_totalOfNights ha0 h) lk_X4_47 (rc2_LED ha0) dX4_isConsistent_32 rfl rfl (Nat.le_of_ble_eq_true rfl) (by omega) (by omega) (by omega) ?_
      intro x2 h
      refine q_aload_n hX dX4_isConsistent_35 rfl ?_
      refine q_V_ip hX hR (w_X4_totalOfSales ha0 h) lk_X4_51 (rc2_LED ha0) dX4_isConsistent_36 rfl rfl (Nat.le_of_ble_eq_true rfl) (by omega) (by omega) (by omega) ?_
      intro x3 h
      refine q_icmp_ne hX dX4_isConsistent_39 (tgt := 46) (by decide) (fun q4 => ?_) (fun q4 => ?_)
      · replace h := ite_f q4 h
        refine q_iconst hX dX4_isConsistent_46 (v := (nI 0)) (by decide) ?_
        exact q_zretp hX hT dX4_isConsistent_47 (Or.inl rfl) h
      · replace h := ite_t q4 h
        refine q_iconst hX dX4_isConsistent_42 (v := (nI 1)) (by decide) ?_
        refine q_goto hX dX4_isConsistent_43 (tgt := 47) (by decide) ?_
        exact q_zretp hX hT dX4_isConsistent_47 (Or.inr rfl) h
    · replace h := ite_f q1 h
      refine q_aload_n hX dX4_isConsistent_10 rfl ?_
      refine q_iload_n hX dX4_isConsistent_11 rfl ?_
      refine q_V_ip hX hR (w_X4_greatestByAdding ha0 h) lk_X4_41 (rc2_LED ha0) dX4_isConsistent_12 rfl rfl (Nat.le_of_ble_eq_true rfl) (by omega) (by omega) (by omega) ?_
      intro x5 h
      refine q_aload_n hX dX4_isConsistent_15 rfl ?_
      refine q_iload_n hX dX4_isConsistent_16 rfl ?_
      refine q_V_ip hX hR (w_X4_greatestByDifferences ha0 h) lk_X4_44 (rc2_LED ha0) dX4_isConsistent_17 rfl rfl (Nat.le_of_ble_eq_true rfl) (by omega) (by omega) (by omega) ?_
      intro x6 h
      refine q_icmp_eq hX dX4_isConsistent_20 (tgt := 25) (by decide) (fun q7 => ?_) (fun q7 => ?_)
      · replace h := ite_t q7 h
        replace h := bnd_e h
        refine q_iinc hX dX4_isConsistent_25 (by decide) rfl (v := _ + nI 1) (ls' := [_, _]) rfl rfl ?_
        refine q_goto hX dX4_isConsistent_28 (tgt := 2) (by decide) ?_
        exact q_dr (ih _  h) ⟨Or.inl rfl, Or.inl rfl, trivial⟩
      · replace h := ite_f q7 h
        refine q_iconst hX dX4_isConsistent_23 (v := (nI 0)) (by decide) ?_
        exact q_zretp hX hT dX4_isConsistent_24 (Or.inl rfl) h
set_option maxRecDepth 100000 in
set_option maxHeartbeats 4000000 in
theorem w_X4_isConsistent {l : Launch} {D : DT} {L : LT} {a0 : Nat} {I : IT} {K : Int32 → Prop} (ha0 : isLed a0) (h : f_X4_isConsistent a0 I K) : Con2 l D m_X4_isConsistent 2 [.ref a0] 0 0 I L (Pz L (fun x I' => I' = I ∧ K x)) := by
  refine Con2.of (by decide +kernel) (by simp [Value.category]) (Nat.le_of_ble_eq_true rfl) (fun X hX hT => ?_)
  have hX : OK X D cX4_isConsistent "TeaHouse$Ledger" 2 := hX
  have hT : RT X l D (some .boolean) (P2 (Pz L (fun x I' => I' = I ∧ K x))) 2 0 0 := hT
  have hR := hT.room
  change J2 X D 2 0 0 I L 0 [.ref a0, .retAddr 0] []
  rw [f_X4_isConsistent] at h
  refine q_iconst hX dX4_isConsistent_0 (v := (nI 1)) (by decide) ?_
  refine q_istore_n hX dX4_isConsistent_1 (by decide) (ls' := [_, _]) rfl ?_
  exact q_dr (w_X4_isConsistent_b2 hX hT ha0  _  _  h) ⟨Or.inl rfl, Or.inl rfl, trivial⟩
set_option maxRecDepth 100000 in
set_option maxHeartbeats 4000000 in
theorem w_X4_describe_b2 {X : XT} {D : DT} {l : Launch} {L : LT} {a0 : Nat} {K : IT → Prop} (hX : OK X D cX4_describe "TeaHouse$Ledger" 3) (hT : RT X l D none (P2 (Pv L K)) 9 30 9600) (ha0 : isLed a0)  : ∀ (n : Nat), ∀ {c w : Nat}, c + (n * 2 + 0) ≤ 30 → w + (n * 640 + 0) ≤ 9600 → ∀ (v2 : Int32) (I : IT), f_X4_describe_b2 a0 K n v2 I → J2 X D 3 c w I L 2 [.ref a0, .ref 60, .int v2] [] := by
  have hR := hT.room
  intro n
  induction n with
  | zero => intro c w hc hw v2 I h; exact False.elim h
  | succ n ih =>
    intro c w hc hw v2 I h
    rw [f_X4_describe_b2] at h
    refine q_iload_n hX dX4_describe_2 rfl ?_
    refine q_aload_n hX dX4_describe_3 rfl ?_
    refine q_getI hX gf_X4_18 rfl dX4_describe_4 (at_LED ha0) ?_
    refine q_icmp_ge hX dX4_describe_7 (tgt := 38) (by decide) (fun q1 => ?_) (fun q1 => ?_)
    · replace h := ite_t q1 h
      exact q_vret hX hT dX4_describe_38 h (by omega) (by omega)
    · replace h := ite_f q1 h
      refine q_iload_n hX dX4_describe_10 rfl ?_
      refine q_if_le hX dX4_describe_11 (tgt := 21) (by decide) (fun q2 => ?_) (fun q2 => ?_)
      · replace h := ite_t q2 h
        refine q_aload_n hX dX4_describe_21 rfl ?_
        refine q_aload_n hX dX4_describe_22 rfl ?_
        refine q_getR hX gf_X4_9 rfl dX4_describe_23 (at_LED ha0) (b := (a0 + 1)) (rt_LED_0 ha0) ?_
        refine q_iload_n hX dX4_describe_26 rfl ?_
        obtain ⟨z3, h⟩ := h
        refine q_iald hX dX4_describe_27 (aa_LED_0 ha0) (inr_e z3) (inr_lt z3) (by decide) ?_
        refine q_V_a hX hR (w_J4_append_bf812  h) lk_X4_60 (rc2_of (ci := 1) rfl rfl) dX4_describe_28 rfl rfl (Nat.le_of_ble_eq_true rfl) (by omega) (by omega) (by omega) ?_
        intro x4 I5 hrx4 h
        obtain rfl : x4 = 60 := hrx4
        refine q_pop hX dX4_describe_31 rfl ?_
        replace h := bnd_e h
        refine q_iinc hX dX4_describe_32 (by decide) rfl (v := _ + nI 1) (ls' := [_, _, _]) rfl rfl ?_
        refine q_goto hX dX4_describe_35 (tgt := 2) (by decide) ?_
        exact q_dr (ih (by omega) (by omega) _ _  h) ⟨Or.inl rfl, Or.inl rfl, Or.inl rfl, trivial⟩
      · replace h := ite_f q2 h
        refine q_aload_n hX dX4_describe_14 rfl ?_
        refine q_bipush hX dX4_describe_15 (v := (nI 32)) (by decide) ?_
        refine q_V_a hX hR (w_J4_append_cf468 (isC_n (by decide)) h) lk_X4_54 (rc2_of (ci := 1) rfl rfl) dX4_describe_17 rfl rfl (Nat.le_of_ble_eq_true rfl) (by omega) (by omega) (by omega) ?_
        intro x7 I8 hrx7 h
        obtain rfl : x7 = 60 := hrx7
        refine q_pop hX dX4_describe_20 rfl ?_
        refine q_aload_n hX dX4_describe_21 rfl ?_
        refine q_aload_n hX dX4_describe_22 rfl ?_
        refine q_getR hX gf_X4_9 rfl dX4_describe_23 (at_LED ha0) (b := (a0 + 1)) (rt_LED_0 ha0) ?_
        refine q_iload_n hX dX4_describe_26 rfl ?_
        obtain ⟨z9, h⟩ := h
        refine q_iald hX dX4_describe_27 (aa_LED_0 ha0) (inr_e z9) (inr_lt z9) (by decide) ?_
        refine q_V_a hX hR (w_J4_append_bf812  h) lk_X4_60 (rc2_of (ci := 1) rfl rfl) dX4_describe_28 rfl rfl (Nat.le_of_ble_eq_true rfl) (by omega) (by omega) (by omega) ?_
        intro x10 I11 hrx10 h
        obtain rfl : x10 = 60 := hrx10
        refine q_pop hX dX4_describe_31 rfl ?_
        replace h := bnd_e h
        refine q_iinc hX dX4_describe_32 (by decide) rfl (v := _ + nI 1) (ls' := [_, _, _]) rfl rfl ?_
        refine q_goto hX dX4_describe_35 (tgt := 2) (by decide) ?_
        exact q_dr (ih (by omega) (by omega) _ _  h) ⟨Or.inl rfl, Or.inl rfl, Or.inl rfl, trivial⟩
set_option maxRecDepth 100000 in
set_option maxHeartbeats 4000000 in
theorem w_X4_describe {l : Launch} {D : DT} {L : LT} {a0 : Nat} {I : IT} {K : IT → Prop} (ha0 : isLed a0) (h : f_X4_describe a0 I K) : Con2 l D m_X4_describe 9 [.ref a0, .ref 60] 30 9600 I L (Pv L K) := by
  refine Con2.of (by decide +kernel) (by simp [Value.category]) (Nat.le_of_ble_eq_true rfl) (fun X hX hT => ?_)
  have hX : OK X D cX4_describe "TeaHouse$Ledger" 3 := hX
  have hT : RT X l D none (P2 (Pv L K)) 9 30 9600 := hT
  have hR := hT.room
  change J2 X D 3 0 0 I L 0 [.ref a0, .ref 60, .retAddr 0] []
  rw [f_X4_describe] at h
  refine q_iconst hX dX4_describe_0 (v := (nI 0)) (by decide) ?_
  refine q_istore_n hX dX4_describe_1 (by decide) (ls' := [_, _, _]) rfl ?_
  exact q_dr (w_X4_describe_b2 hX hT ha0   _  (by omega) (by omega) _ _  h) ⟨Or.inl rfl, Or.inl rfl, Or.inl rfl, trivial⟩
set_option maxRecDepth 100000 in
set_option maxHeartbeats 4000000 in
theorem w_X5_numberAt {l : Launch} {D : DT} {L : LT} {a0 : Nat} {a1 : Int32} {I : IT} {K : Int32 → Prop} (ha0 : isOrd a0) (h : f_X5_numberAt a0 a1 I K) : Con2 l D m_X5_numberAt 1 [.ref a0, .int a1] 0 0 I L (Pi L (fun x I' => I' = I ∧ K x)) := by
  refine Con2.of (by decide +kernel) (by simp [Value.category]) (Nat.le_of_ble_eq_true rfl) (fun X hX hT => ?_)
  have hX : OK X D cX5_numberAt "TeaHouse$Orders" 2 := hX
  have hT : RT X l D (some .int) (P2 (Pi L (fun x I' => I' = I ∧ K x))) 1 0 0 := hT
  have hR := hT.room
  change J2 X D 2 0 0 I L 0 [.ref a0, .int a1] []
  rw [f_X5_numberAt] at h
  refine q_iload_n hX dX5_numberAt_0 rfl ?_
  refine q_if_lt hX dX5_numberAt_1 (tgt := 21) (by decide) (fun q1 => ?_) (fun q1 => ?_)
  · replace h := ite_t q1 h
    refine q_iconst hX dX5_numberAt_21 (v := (-1)) (by decide) ?_
    exact q_iretp hX hT dX5_numberAt_22 h
  · replace h := ite_f q1 h
    refine q_iload_n hX dX5_numberAt_4 rfl ?_
    refine q_aload_n hX dX5_numberAt_5 rfl ?_
    refine q_getI hX gf_X5_27 rfl dX5_numberAt_6 (at_ORD ha0) ?_
    refine q_icmp_ge hX dX5_numberAt_9 (tgt := 21) (by decide) (fun q2 => ?_) (fun q2 => ?_)
    · replace h := ite_t q2 h
      refine q_iconst hX dX5_numberAt_21 (v := (-1)) (by decide) ?_
      exact q_iretp hX hT dX5_numberAt_22 h
    · replace h := ite_f q2 h
      refine q_aload_n hX dX5_numberAt_12 rfl ?_
      refine q_getR hX gf_X5_9 rfl dX5_numberAt_13 (at_ORD ha0) (b := (a0 + 1)) (rt_ORD_0 ha0) ?_
      refine q_iload_n hX dX5_numberAt_16 rfl ?_
      obtain ⟨z3, h⟩ := h
      refine q_iald hX dX5_numberAt_17 (aa_ORD_0 ha0) (inr_e z3) (inr_lt z3) (by decide) ?_
      refine q_goto hX dX5_numberAt_18 (tgt := 22) (by decide) ?_
      exact q_iretp hX hT dX5_numberAt_22 h
set_option maxRecDepth 100000 in
set_option maxHeartbeats 4000000 in
theorem w_X5_isConsistent_b2 {X : XT} {D : DT} {l : Launch} {L : LT} {a0 : Nat} {I : IT} {K : Int32 → Prop} (hX : OK X D cX5_isConsistent "TeaHouse$Orders" 2) (hT : RT X l D (some .boolean) (P2 (Pz L (fun x I' => I' = I ∧ K x))) 2 0 0) (ha0 : isOrd a0)  : ∀ (n : Nat), ∀ (v1 : Int32), f_X5_isConsistent_b2 a0 I K n v1 → J2 X D 2 0 0 I L 2 [.ref a0, .int v1] [] := by
  have hR := hT.room
  intro n
  induction n with
  | zero => intro v1 h; exact False.elim h
  | succ n ih =>
    intro v1 h
    rw [f_X5_isConsistent_b2] at h
    refine q_iload_n hX dX5_isConsistent_2 rfl ?_
    refine q_aload_n hX dX5_isConsistent_3 rfl ?_
    refine q_getI hX gf_X5_27 rfl dX5_isConsistent_4 (at_ORD ha0) ?_
    refine q_icmp_ge hX dX5_isConsistent_7 (tgt := 31) (by decide) (fun q1 => ?_) (fun q1 => ?_)
    · replace h := ite_t q1 h
      refine q_iconst hX dX5_isConsistent_31 (v := (nI 1)) (by decide) ?_
      exact q_zretp hX hT dX5_isConsistent_32 (Or.inr rfl) h
    · replace h := ite_f q1 h
      refine q_aload_n hX dX5_isConsistent_10 rfl ?_
      refine q_aload_n hX dX5_isConsistent_11 rfl ?_
      refine q_iload_n hX dX5_isConsistent_12 rfl ?_
      refine q_V_ip hX hR (w_X5_numberAt ha0 h) lk_X5_38 (rc2_ORD ha0) dX5_isConsistent_13 rfl rfl (Nat.le_of_ble_eq_true rfl) (by omega) (by omega) (by omega) ?_
      intro x2 h
      refine q_V_ip hX hR (w_X5_find ha0 h) lk_X5_42 (rc2_ORD ha0) dX5_isConsistent_16 rfl rfl (Nat.le_of_ble_eq_true rfl) (by omega) (by omega) (by omega) ?_
      intro x3 h
      refine q_iload_n hX dX5_isConsistent_19 rfl ?_
      refine q_icmp_eq hX dX5_isConsistent_20 (tgt := 25) (by decide) (fun q4 => ?_) (fun q4 => ?_)
      · replace h := ite_t q4 h
        replace h := bnd_e h
        refine q_iinc hX dX5_isConsistent_25 (by decide) rfl (v := _ + nI 1) (ls' := [_, _]) rfl rfl ?_
        refine q_goto hX dX5_isConsistent_28 (tgt := 2) (by decide) ?_
        exact q_dr (ih _  h) ⟨Or.inl rfl, Or.inl rfl, trivial⟩
      · replace h := ite_f q4 h
        refine q_iconst hX dX5_isConsistent_23 (v := (nI 0)) (by decide) ?_
        exact q_zretp hX hT dX5_isConsistent_24 (Or.inl rfl) h
set_option maxRecDepth 100000 in
set_option maxHeartbeats 4000000 in
theorem w_X5_isConsistent {l : Launch} {D : DT} {L : LT} {a0 : Nat} {I : IT} {K : Int32 → Prop} (ha0 : isOrd a0) (h : f_X5_isConsistent a0 I K) : Con2 l D m_X5_isConsistent 2 [.ref a0] 0 0 I L (Pz L (fun x I' => I' = I ∧ K x)) := by
  refine Con2.of (by decide +kernel) (by simp [Value.category]) (Nat.le_of_ble_eq_true rfl) (fun X hX hT => ?_)
  have hX : OK X D cX5_isConsistent "TeaHouse$Orders" 2 := hX
  have hT : RT X l D (some .boolean) (P2 (Pz L (fun x I' => I' = I ∧ K x))) 2 0 0 := hT
  have hR := hT.room
  change J2 X D 2 0 0 I L 0 [.ref a0, .retAddr 0] []
  rw [f_X5_isConsistent] at h
  refine q_iconst hX dX5_isConsistent_0 (v := (nI 0)) (by decide) ?_
  refine q_istore_n hX dX5_isConsistent_1 (by decide) (ls' := [_, _]) rfl ?_
  exact q_dr (w_X5_isConsistent_b2 hX hT ha0  _  _  h) ⟨Or.inl rfl, Or.inl rfl, trivial⟩
set_option maxRecDepth 100000 in
set_option maxHeartbeats 4000000 in
theorem w_X5_describe {l : Launch} {D : DT} {L : LT} {a0 : Nat} {a1 : Int32} {I : IT} {K : IT → Prop} (ha0 : isOrd a0) (h : f_X5_describe a0 a1 I K) : Con2 l D m_X5_describe 9 [.ref a0, .int a1, .ref 60] 10 3200 I L (Pv L K) := by
  refine Con2.of (by decide +kernel) (by simp [Value.category]) (Nat.le_of_ble_eq_true rfl) (fun X hX hT => ?_)
  have hX : OK X D cX5_describe "TeaHouse$Orders" 3 := hX
  have hT : RT X l D none (P2 (Pv L K)) 9 10 3200 := hT
  have hR := hT.room
  change J2 X D 3 0 0 I L 0 [.ref a0, .int a1, .ref 60] []
  rw [f_X5_describe] at h
  refine q_aload_n hX dX5_describe_0 rfl ?_
  refine q_bipush hX dX5_describe_1 (v := (nI 35)) (by decide) ?_
  refine q_V_a hX hR (w_J4_append_cf468 (isC_n (by decide)) h) lk_X5_45 (rc2_of (ci := 1) rfl rfl) dX5_describe_3 rfl rfl (Nat.le_of_ble_eq_true rfl) (by omega) (by omega) (by omega) ?_
  intro x1 I2 hrx1 h
  obtain rfl : x1 = 60 := hrx1
  refine q_aload_n hX dX5_describe_6 rfl ?_
  refine q_getR hX gf_X5_9 rfl dX5_describe_7 (at_ORD ha0) (b := (a0 + 1)) (rt_ORD_0 ha0) ?_
  refine q_iload_n hX dX5_describe_10 rfl ?_
  obtain ⟨z3, h⟩ := h
  refine q_iald hX dX5_describe_11 (aa_ORD_0 ha0) (inr_e z3) (inr_lt z3) (by decide) ?_
  refine q_V_a hX hR (w_J4_append_bf812  h) lk_X5_51 (rc2_of (ci := 1) rfl rfl) dX5_describe_12 rfl rfl (Nat.le_of_ble_eq_true rfl) (by omega) (by omega) (by omega) ?_
  intro x4 I5 hrx4 h
  obtain rfl : x4 = 60 := hrx4
  refine q_pop hX dX5_describe_15 rfl ?_
  refine q_aload_n hX dX5_describe_16 rfl ?_
  refine q_ldcS hX (tx := " t") (code := 57) (by decide +kernel) dX5_describe_17 ?_
  refine q_V_a hX hR (w_J4_append_15ec4 (str_n (a := 1000057) rfl) h) lk_X5_56 (rc2_of (ci := 1) rfl rfl) dX5_describe_19 rfl rfl (Nat.le_of_ble_eq_true rfl) (by omega) (by omega) (by omega) ?_
  intro x6 I7 hrx6 h
  obtain rfl : x6 = 60 := hrx6
  refine q_aload_n hX dX5_describe_22 rfl ?_
  refine q_getR hX gf_X5_15 rfl dX5_describe_23 (at_ORD ha0) (b := (a0 + 2)) (rt_ORD_1 ha0) ?_
  refine q_iload_n hX dX5_describe_26 rfl ?_
  refine q_iald hX dX5_describe_27 (aa_ORD_1 ha0) (inr_e z3) (inr_lt z3) (by decide) ?_
  refine q_V_a hX hR (w_J4_append_bf812  h) lk_X5_51 (rc2_of (ci := 1) rfl rfl) dX5_describe_28 rfl rfl (Nat.le_of_ble_eq_true rfl) (by omega) (by omega) (by omega) ?_
  intro x8 I9 hrx8 h
  obtain rfl : x8 = 60 := hrx8
  refine q_pop hX dX5_describe_31 rfl ?_
  refine q_aload_n hX dX5_describe_32 rfl ?_
  refine q_bipush hX dX5_describe_33 (v := (nI 32)) (by decide) ?_
  refine q_V_a hX hR (w_J4_append_cf468 (isC_n (by decide)) h) lk_X5_45 (rc2_of (ci := 1) rfl rfl) dX5_describe_35 rfl rfl (Nat.le_of_ble_eq_true rfl) (by omega) (by omega) (by omega) ?_
  intro x10 I11 hrx10 h
  obtain rfl : x10 = 60 := hrx10
  refine q_aload_n hX dX5_describe_38 rfl ?_
  refine q_getR hX gf_X5_18 rfl dX5_describe_39 (at_ORD ha0) (b := (a0 + 3)) (rt_ORD_2 ha0) ?_
  refine q_iload_n hX dX5_describe_42 rfl ?_
  refine q_iald hX dX5_describe_43 (aa_ORD_2 ha0) (inr_e z3) (inr_lt z3) (by decide) ?_
  refine q_V_a hX hR (w_J4_append_bf812  h) lk_X5_51 (rc2_of (ci := 1) rfl rfl) dX5_describe_44 rfl rfl (Nat.le_of_ble_eq_true rfl) (by omega) (by omega) (by omega) ?_
  intro x12 I13 hrx12 h
  obtain rfl : x12 = 60 := hrx12
  refine q_pop hX dX5_describe_47 rfl ?_
  refine q_aload_n hX dX5_describe_48 rfl ?_
  refine q_bipush hX dX5_describe_49 (v := (nI 120)) (by decide) ?_
  refine q_V_a hX hR (w_J4_append_cf468 (isC_n (by decide)) h) lk_X5_45 (rc2_of (ci := 1) rfl rfl) dX5_describe_51 rfl rfl (Nat.le_of_ble_eq_true rfl) (by omega) (by omega) (by omega) ?_
  intro x14 I15 hrx14 h
  obtain rfl : x14 = 60 := hrx14
  refine q_aload_n hX dX5_describe_54 rfl ?_
  refine q_getR hX gf_X5_21 rfl dX5_describe_55 (at_ORD ha0) (b := (a0 + 4)) (rt_ORD_3 ha0) ?_
  refine q_iload_n hX dX5_describe_58 rfl ?_
  refine q_iald hX dX5_describe_59 (aa_ORD_3 ha0) (inr_e z3) (inr_lt z3) (by decide) ?_
  refine q_V_a hX hR (w_J4_append_bf812  h) lk_X5_51 (rc2_of (ci := 1) rfl rfl) dX5_describe_60 rfl rfl (Nat.le_of_ble_eq_true rfl) (by omega) (by omega) (by omega) ?_
  intro x16 I17 hrx16 h
  obtain rfl : x16 = 60 := hrx16
  refine q_pop hX dX5_describe_63 rfl ?_
  refine q_aload_n hX dX5_describe_64 rfl ?_
  refine q_ldcS hX (tx := " p") (code := 58) (by decide +kernel) dX5_describe_65 ?_
  refine q_V_a hX hR (w_J4_append_15ec4 (str_n (a := 1000058) rfl) h) lk_X5_56 (rc2_of (ci := 1) rfl rfl) dX5_describe_67 rfl rfl (Nat.le_of_ble_eq_true rfl) (by omega) (by omega) (by omega) ?_
  intro x18 I19 hrx18 h
  obtain rfl : x18 = 60 := hrx18
  refine q_aload_n hX dX5_describe_70 rfl ?_
  refine q_getR hX gf_X5_24 rfl dX5_describe_71 (at_ORD ha0) (b := (a0 + 5)) (rt_ORD_4 ha0) ?_
  refine q_iload_n hX dX5_describe_74 rfl ?_
  refine q_iald hX dX5_describe_75 (aa_ORD_4 ha0) (inr_e z3) (inr_lt z3) (by decide) ?_
  refine q_V_a hX hR (w_J4_append_bf812  h) lk_X5_51 (rc2_of (ci := 1) rfl rfl) dX5_describe_76 rfl rfl (Nat.le_of_ble_eq_true rfl) (by omega) (by omega) (by omega) ?_
  intro x20 I21 hrx20 h
  obtain rfl : x20 = 60 := hrx20
  refine q_pop hX dX5_describe_79 rfl ?_
  exact q_vret hX hT dX5_describe_80 h (by omega) (by omega)
set_option maxRecDepth 100000 in
set_option maxHeartbeats 4000000 in
theorem w_X8_remember {l : Launch} {D : DT} {L : LT}  {I : IT} {K : IT → Prop}  (h : f_X8_remember  I K) : Con2 l D m_X8_remember 4 [.ref 0] 0 0 I L (Pv L K) := by
  refine Con2.of (by decide +kernel) (by simp [Value.category]) (Nat.le_of_ble_eq_true rfl) (fun X hX hT => ?_)
  have hX : OK X D cX8_remember "TeaHouse" 1 := hX
  have hT : RT X l D none (P2 (Pv L K)) 4 0 0 := hT
  have hR := hT.room
  change J2 X D 1 0 0 I L 0 [.ref 0] []
  rw [f_X8_remember] at h
  refine q_aload_n hX dX8_remember_0 rfl ?_
  refine q_getR hX gf_X8_22 rfl dX8_remember_1 (at_of (n := 0) rfl) (b := 49) rfl ?_
  refine q_aload_n hX dX8_remember_4 rfl ?_
  refine q_getI hX gf_X8_55 rfl dX8_remember_5 (at_of (n := 0) rfl) ?_
  obtain ⟨z1, h⟩ := h
  refine q_past hX dX8_remember_8 z1 ?_
  refine q_aload_n hX dX8_remember_9 rfl ?_
  refine q_getR hX gf_X8_12 rfl dX8_remember_10 (at_of (n := 0) rfl) (b := 1) rfl ?_
  refine q_V_v hX hR (w_X1_copyFrom (hou_past z1) (hou_n (a := 1) rfl) h) lk_X8_338 (rc2_HOU (hou_past z1)) dX8_remember_13 rfl rfl (Nat.le_of_ble_eq_true rfl) (by omega) (by omega) (by omega) ?_
  intro I2 h
  refine q_aload_n hX dX8_remember_16 rfl ?_
  refine q_aload_n hX dX8_remember_17 rfl ?_
  refine q_getI hX gf_X8_55 rfl dX8_remember_18 (at_of (n := 0) rfl) ?_
  refine q_iconst hX dX8_remember_21 (v := (nI 1)) (by decide) ?_
  refine q_iadd hX dX8_remember_22 ?_
  refine q_bipush hX dX8_remember_23 (v := (nI 8)) (by decide) ?_
  refine q_irem hX dX8_remember_25 (by decide) ?_
  replace h := wr_e h
  refine q_putI hX pf_X8_55 rfl dX8_remember_26 (at_of (n := 0) rfl) rfl rfl ?_
  generalize up2 _ _ _ _ = I3 at h ⊢
  refine q_aload_n hX dX8_remember_29 rfl ?_
  refine q_aload_n hX dX8_remember_30 rfl ?_
  refine q_getI hX gf_X8_51 rfl dX8_remember_31 (at_of (n := 0) rfl) ?_
  refine q_iconst hX dX8_remember_34 (v := (nI 1)) (by decide) ?_
  refine q_iadd hX dX8_remember_35 ?_
  refine q_bipush hX dX8_remember_36 (v := (nI 8)) (by decide) ?_
  refine q_min hX hR mm_X8_356 w_min1 w_math w_min2 dX8_remember_38 (Nat.le_of_ble_eq_true rfl) (by omega) (by omega) (by omega) ?_
  replace h := wr_e h
  refine q_putI hX pf_X8_51 rfl dX8_remember_41 (at_of (n := 0) rfl) rfl rfl ?_
  generalize up2 _ _ _ _ = I4 at h ⊢
  exact q_vret hX hT dX8_remember_44 h
set_option maxRecDepth 100000 in
set_option maxHeartbeats 4000000 in
theorem w_X8_requireAllowed {l : Launch} {D : DT} {L : LT} {a0 : Nat} {I : IT} {K : Prop} {KT : String → Prop} (hf : l.stackTraces = false) (ha0 : isRfs a0) (h : f_X8_requireAllowed a0 I K KT) : Con2 l D m_X8_requireAllowed 6 [.ref a0] 1 6 I L (Px (Pv L (fun I' => I' = I ∧ K)) L (fun E I' => I' = I ∧ KT E)) := by
  refine Con2.of (by decide +kernel) (by simp [Value.category]) (Nat.le_of_ble_eq_true rfl) (fun X hX hT => ?_)
  have hX : OK X D cX8_requireAllowed "TeaHouse" 1 := hX
  have hT : RT X l D none (P2 (Px (Pv L (fun I' => I' = I ∧ K)) L (fun E I' => I' = I ∧ KT E))) 6 1 6 := hT
  have hR := hT.room
  change J2 X D 1 0 0 I L 0 [.ref a0] []
  rw [f_X8_requireAllowed] at h
  refine q_aload_n hX dX8_requireAllowed_0 rfl ?_
  refine q_gets hX (q := ("TeaHouse$Refusal", "NO_SUCH_KETTLE", "LTeaHouse$Refusal;", .ref 1000021)) (by decide +kernel) gs_X8_380 dX8_requireAllowed_1 ?_
  refine q_acmp_ne hX ha0 ⟨by decide, by decide⟩ dX8_requireAllowed_4 (tgt := 18) (by decide) (fun q1 => ?_) (fun q1 => ?_)
  · replace h := ite_f q1 h
    refine q_aload_n hX dX8_requireAllowed_18 rfl ?_
    refine q_gets hX (q := ("TeaHouse$Refusal", "OUT_OF_RANGE", "LTeaHouse$Refusal;", .ref 1000022)) (by decide +kernel) gs_X8_385 dX8_requireAllowed_19 ?_
    refine q_acmp_ne hX ha0 ⟨by decide, by decide⟩ dX8_requireAllowed_22 (tgt := 36) (by decide) (fun q2 => ?_) (fun q2 => ?_)
    · replace h := ite_f q2 h
      refine q_aload_n hX dX8_requireAllowed_36 rfl ?_
      refine q_gets hX (q := ("TeaHouse$Refusal", "NOT_NOW", "LTeaHouse$Refusal;", .ref 1000023)) (by decide +kernel) gs_X8_390 dX8_requireAllowed_37 ?_
      refine q_acmp_ne hX ha0 ⟨by decide, by decide⟩ dX8_requireAllowed_40 (tgt := 54) (by decide) (fun q3 => ?_) (fun q3 => ?_)
      · replace h := ite_f q3 h
        refine q_aload_n hX dX8_requireAllowed_54 rfl ?_
        refine q_gets hX (q := ("TeaHouse$Refusal", "NO_SUCH_ORDER", "LTeaHouse$Refusal;", .ref 1000024)) (by decide +kernel) gs_X8_395 dX8_requireAllowed_55 ?_
        refine q_acmp_ne hX ha0 ⟨by decide, by decide⟩ dX8_requireAllowed_58 (tgt := 72) (by decide) (fun q4 => ?_) (fun q4 => ?_)
        · replace h := ite_f q4 h
          exact q_x_vretp hX hT dX8_requireAllowed_72 h (by omega) (by omega)
        · replace h := ite_t q4 h
          exact q_throwWNp hX hT hf th_398 (text := "no waiting order has this number") (code := 56) (by decide +kernel) dX8_requireAllowed_61 dX8_requireAllowed_64 dX8_requireAllowed_65 dX8_requireAllowed_68 dX8_requireAllowed_71 (by decide) (by omega) h (by omega) (by omega)
      · replace h := ite_t q3 h
        exact q_throwWp hX hT hf th_313 (text := "the tea house does not allow this now") (code := 55) (by decide +kernel) dX8_requireAllowed_43 dX8_requireAllowed_46 dX8_requireAllowed_47 dX8_requireAllowed_50 dX8_requireAllowed_53 (by decide) (by omega) h (by omega) (by omega)
    · replace h := ite_t q2 h
      exact q_throwWp hX hT hf th_306 (text := "an argument is out of range") (code := 54) (by decide +kernel) dX8_requireAllowed_25 dX8_requireAllowed_28 dX8_requireAllowed_29 dX8_requireAllowed_32 dX8_requireAllowed_35 (by decide) (by omega) h (by omega) (by omega)
  · replace h := ite_t q1 h
    exact q_throwWp hX hT hf th_226 (text := "there is no such kettle") (code := 40) (by decide +kernel) dX8_requireAllowed_7 dX8_requireAllowed_10 dX8_requireAllowed_11 dX8_requireAllowed_14 dX8_requireAllowed_17 (by decide) (by omega) h (by omega) (by omega)
set_option maxRecDepth 100000 in
set_option maxHeartbeats 4000000 in
theorem w_X8_change {l : Launch} {D : DT} {L : LT} {a1 : Nat} {a2 : Int32} {a3 : Int32} {a4 : Int32} {a5 : Int32} {I : IT} {K : Int32 → IT → Prop} {KT : String → IT → Prop} (hf : l.stackTraces = false) (ha1 : isVer a1) (h : f_X8_change a1 a2 a3 a4 a5 I K KT) : Con2 l D m_X8_change 7 [.ref 0, .ref a1, .int a2, .int a3, .int a4, .int a5] 1 6 I L (Px (Pi L K) L KT) := by
  refine Con2.of (by decide +kernel) (by simp [Value.category]) (Nat.le_of_ble_eq_true rfl) (fun X hX hT => ?_)
  have hX : OK X D cX8_change "TeaHouse" 6 := hX
  have hT : RT X l D (some .int) (P2 (Px (Pi L K) L KT)) 7 1 6 := hT
  have hR := hT.room
  change J2 X D 6 0 0 I L 0 [.ref 0, .ref a1, .int a2, .int a3, .int a4, .int a5] []
  rw [f_X8_change] at h
  refine q_aload_n hX dX8_change_0 rfl ?_
  refine q_getR hX gf_X8_12 rfl dX8_change_1 (at_of (n := 0) rfl) (b := 1) rfl ?_
  refine q_aload_n hX dX8_change_4 rfl ?_
  refine q_iload_n hX dX8_change_5 rfl ?_
  refine q_iload_n hX dX8_change_6 rfl ?_
  refine q_iload hX dX8_change_7 rfl ?_
  refine q_iload hX dX8_change_9 rfl ?_
  refine q_V_ap hX hR (w_X1_refusal (hou_n (a := 1) rfl) ha1 h) lk_X8_189 (rc2_of (ci := 4) rfl rfl) dX8_change_11 rfl rfl (Nat.le_of_ble_eq_true rfl) (by omega) (by omega) (by omega) ?_
  intro x1 hrx1 h
  refine q_S_vpx hX hR hT (w_X8_requireAllowed hf hrx1 h) lk_X8_349 dX8_change_14 rfl rfl (Nat.le_of_ble_eq_true rfl) (by omega) (by omega) (by omega) (fun _ _ h => by obtain ⟨rfl, h⟩ := h; exact h) ?_
  intro h
  refine q_aload_n hX dX8_change_17 rfl ?_
  refine q_V_v hX hR (w_X8_remember  h) lk_X8_335 (rc2_of (ci := 9) rfl rfl) dX8_change_18 rfl rfl (Nat.le_of_ble_eq_true rfl) (by omega) (by omega) (by omega) ?_
  intro I2 h
  refine q_aload_n hX dX8_change_21 rfl ?_
  refine q_getR hX gf_X8_12 rfl dX8_change_22 (at_of (n := 0) rfl) (b := 1) rfl ?_
  refine q_aload_n hX dX8_change_25 rfl ?_
  refine q_iload_n hX dX8_change_26 rfl ?_
  refine q_iload_n hX dX8_change_27 rfl ?_
  refine q_iload hX dX8_change_28 rfl ?_
  refine q_iload hX dX8_change_30 rfl ?_
  refine q_V_i hX hR (w_X1_perform (hou_n (a := 1) rfl) ha1 h) lk_X8_353 (rc2_of (ci := 4) rfl rfl) dX8_change_32 rfl rfl (Nat.le_of_ble_eq_true rfl) (by omega) (by omega) (by omega) ?_
  intro x3 I4 h
  exact q_x_iret hX hT dX8_change_35 h (by omega) (by omega)
set_option maxRecDepth 100000 in
set_option maxHeartbeats 4000000 in
theorem w_X8_addKettle {l : Launch} {D : DT} {L : LT} {a1 : Int32} {I : IT} {K : Int32 → IT → Prop} {KT : String → IT → Prop} (hf : l.stackTraces = false)  (h : f_X8_addKettle a1 I K KT) : Con2 l D m_X8_addKettle 8 [.ref 0, .int a1] 1 6 I L (Px (Pi L K) L KT) := by
  refine Con2.of (by decide +kernel) (by simp [Value.category]) (Nat.le_of_ble_eq_true rfl) (fun X hX hT => ?_)
  have hX : OK X D cX8_addKettle "TeaHouse" 2 := hX
  have hT : RT X l D (some .int) (P2 (Px (Pi L K) L KT)) 8 1 6 := hT
  have hR := hT.room
  change J2 X D 2 0 0 I L 0 [.ref 0, .int a1] []
  rw [f_X8_addKettle] at h
  refine q_aload_n hX dX8_addKettle_0 rfl ?_
  refine q_gets hX (q := ("TeaHouse$Verb", "KETTLE", "LTeaHouse$Verb;", .ref 1000000)) (by decide +kernel) gs_X8_64 dX8_addKettle_1 ?_
  refine q_iload_n hX dX8_addKettle_4 rfl ?_
  refine q_iconst hX dX8_addKettle_5 (v := (nI 0)) (by decide) ?_
  refine q_iconst hX dX8_addKettle_6 (v := (nI 0)) (by decide) ?_
  refine q_iconst hX dX8_addKettle_7 (v := (nI 0)) (by decide) ?_
  refine q_V_ix hX hR hT (w_X8_change hf ⟨by decide, by decide⟩ h) lk_X8_70 (rc2_of (ci := 9) rfl rfl) dX8_addKettle_8 rfl rfl (Nat.le_of_ble_eq_true rfl) (by omega) (by omega) (by omega) (fun _ _ h => h) ?_
  intro x1 I2 h
  exact q_x_iret hX hT dX8_addKettle_11 h (by omega) (by omega)
set_option maxRecDepth 100000 in
set_option maxHeartbeats 4000000 in
theorem w_X8_halves {l : Launch} {D : DT} {L : LT} {a0 : Int32} {I : IT} {K : UInt32 → Prop}  (h : f_X8_halves a0 I K) : Con2 l D m_X8_halves 1 [.int a0] 0 0 I L (Pf L (fun x I' => I' = I ∧ K x)) := by
  refine Con2.of (by decide +kernel) (by simp [Value.category]) (Nat.le_of_ble_eq_true rfl) (fun X hX hT => ?_)
  have hX : OK X D cX8_halves "TeaHouse" 1 := hX
  have hT : RT X l D (some .float) (P2 (Pf L (fun x I' => I' = I ∧ K x))) 1 0 0 := hT
  have hR := hT.room
  change J2 X D 1 0 0 I L 0 [.int a0] []
  rw [f_X8_halves] at h
  refine q_iload_n hX dX8_halves_0 rfl ?_
  refine q_i2f hX dX8_halves_1 ?_
  refine q_ldcfw hX kc_X8_418 dX8_halves_2 ?_
  obtain ⟨z1, h⟩ := h
  refine q_fmul hX dX8_halves_5 z1 ?_
  exact q_fretp hX hT dX8_halves_6 h
set_option maxRecDepth 100000 in
set_option maxHeartbeats 4000000 in
theorem w_X8_fill {l : Launch} {D : DT} {L : LT} {a1 : Int32} {a2 : Int32} {I : IT} {K : UInt32 → IT → Prop} {KT : String → IT → Prop} (hf : l.stackTraces = false)  (h : f_X8_fill a1 a2 I K KT) : Con2 l D m_X8_fill 8 [.ref 0, .int a1, .int a2] 1 6 I L (Px (Pf L K) L KT) := by
  refine Con2.of (by decide +kernel) (by simp [Value.category]) (Nat.le_of_ble_eq_true rfl) (fun X hX hT => ?_)
  have hX : OK X D cX8_fill "TeaHouse" 3 := hX
  have hT : RT X l D (some .float) (P2 (Px (Pf L K) L KT)) 8 1 6 := hT
  have hR := hT.room
  change J2 X D 3 0 0 I L 0 [.ref 0, .int a1, .int a2] []
  rw [f_X8_fill] at h
  refine q_aload_n hX dX8_fill_0 rfl ?_
  refine q_gets hX (q := ("TeaHouse$Verb", "FILL", "LTeaHouse$Verb;", .ref 1000001)) (by decide +kernel) gs_X8_74 dX8_fill_1 ?_
  refine q_iload_n hX dX8_fill_4 rfl ?_
  refine q_iload_n hX dX8_fill_5 rfl ?_
  refine q_iconst hX dX8_fill_6 (v := (nI 0)) (by decide) ?_
  refine q_iconst hX dX8_fill_7 (v := (nI 0)) (by decide) ?_
  refine q_V_ix hX hR hT (w_X8_change hf ⟨by decide, by decide⟩ h) lk_X8_70 (rc2_of (ci := 9) rfl rfl) dX8_fill_8 rfl rfl (Nat.le_of_ble_eq_true rfl) (by omega) (by omega) (by omega) (fun _ _ h => h) ?_
  intro x1 I2 h
  refine q_S_fp hX hR (w_X8_halves  h) lk_X8_77 dX8_fill_11 rfl rfl (Nat.le_of_ble_eq_true rfl) (by omega) (by omega) (by omega) ?_
  intro x3 h
  exact q_x_fret hX hT dX8_fill_14 h (by omega) (by omega)
set_option maxRecDepth 100000 in
set_option maxHeartbeats 4000000 in
theorem w_X8_setBurner {l : Launch} {D : DT} {L : LT} {a1 : Int32} {a2 : Int32} {I : IT} {K : Int32 → IT → Prop} {KT : String → IT → Prop} (hf : l.stackTraces = false)  (h : f_X8_setBurner a1 a2 I K KT) : Con2 l D m_X8_setBurner 8 [.ref 0, .int a1, .int a2] 1 6 I L (Px (Pi L K) L KT) := by
  refine Con2.of (by decide +kernel) (by simp [Value.category]) (Nat.le_of_ble_eq_true rfl) (fun X hX hT => ?_)
  have hX : OK X D cX8_setBurner "TeaHouse" 3 := hX
  have hT : RT X l D (some .int) (P2 (Px (Pi L K) L KT)) 8 1 6 := hT
  have hR := hT.room
  change J2 X D 3 0 0 I L 0 [.ref 0, .int a1, .int a2] []
  rw [f_X8_setBurner] at h
  refine q_aload_n hX dX8_setBurner_0 rfl ?_
  refine q_gets hX (q := ("TeaHouse$Verb", "BURNER", "LTeaHouse$Verb;", .ref 1000002)) (by decide +kernel) gs_X8_81 dX8_setBurner_1 ?_
  refine q_iload_n hX dX8_setBurner_4 rfl ?_
  refine q_iload_n hX dX8_setBurner_5 rfl ?_
  refine q_iconst hX dX8_setBurner_6 (v := (nI 0)) (by decide) ?_
  refine q_iconst hX dX8_setBurner_7 (v := (nI 0)) (by decide) ?_
  refine q_V_ix hX hR hT (w_X8_change hf ⟨by decide, by decide⟩ h) lk_X8_70 (rc2_of (ci := 9) rfl rfl) dX8_setBurner_8 rfl rfl (Nat.le_of_ble_eq_true rfl) (by omega) (by omega) (by omega) (fun _ _ h => h) ?_
  intro x1 I2 h
  exact q_x_iret hX hT dX8_setBurner_11 h (by omega) (by omega)
set_option maxRecDepth 100000 in
set_option maxHeartbeats 4000000 in
theorem w_X8_order {l : Launch} {D : DT} {L : LT} {a1 : Int32} {a2 : Int32} {a3 : Int32} {a4 : Int32} {I : IT} {K : Int32 → IT → Prop} {KT : String → IT → Prop} (hf : l.stackTraces = false)  (h : f_X8_order a1 a2 a3 a4 I K KT) : Con2 l D m_X8_order 8 [.ref 0, .int a1, .int a2, .int a3, .int a4] 1 6 I L (Px (Pi L K) L KT) := by
  refine Con2.of (by decide +kernel) (by simp [Value.category]) (Nat.le_of_ble_eq_true rfl) (fun X hX hT => ?_)
  have hX : OK X D cX8_order "TeaHouse" 5 := hX
  have hT : RT X l D (some .int) (P2 (Px (Pi L K) L KT)) 8 1 6 := hT
  have hR := hT.room
  change J2 X D 5 0 0 I L 0 [.ref 0, .int a1, .int a2, .int a3, .int a4] []
  rw [f_X8_order] at h
  refine q_aload_n hX dX8_order_0 rfl ?_
  refine q_gets hX (q := ("TeaHouse$Verb", "ORDER", "LTeaHouse$Verb;", .ref 1000003)) (by decide +kernel) gs_X8_84 dX8_order_1 ?_
  refine q_iload_n hX dX8_order_4 rfl ?_
  refine q_iload_n hX dX8_order_5 rfl ?_
  refine q_iload_n hX dX8_order_6 rfl ?_
  refine q_iload hX dX8_order_7 rfl ?_
  refine q_V_ix hX hR hT (w_X8_change hf ⟨by decide, by decide⟩ h) lk_X8_70 (rc2_of (ci := 9) rfl rfl) dX8_order_9 rfl rfl (Nat.le_of_ble_eq_true rfl) (by omega) (by omega) (by omega) (fun _ _ h => h) ?_
  intro x1 I2 h
  exact q_x_iret hX hT dX8_order_12 h (by omega) (by omega)
set_option maxRecDepth 100000 in
set_option maxHeartbeats 4000000 in
theorem w_X8_cancel {l : Launch} {D : DT} {L : LT} {a1 : Int32} {I : IT} {K : Int32 → IT → Prop} {KT : String → IT → Prop} (hf : l.stackTraces = false)  (h : f_X8_cancel a1 I K KT) : Con2 l D m_X8_cancel 8 [.ref 0, .int a1] 1 6 I L (Px (Pi L K) L KT) := by
  refine Con2.of (by decide +kernel) (by simp [Value.category]) (Nat.le_of_ble_eq_true rfl) (fun X hX hT => ?_)
  have hX : OK X D cX8_cancel "TeaHouse" 2 := hX
  have hT : RT X l D (some .int) (P2 (Px (Pi L K) L KT)) 8 1 6 := hT
  have hR := hT.room
  change J2 X D 2 0 0 I L 0 [.ref 0, .int a1] []
  rw [f_X8_cancel] at h
  refine q_aload_n hX dX8_cancel_0 rfl ?_
  refine q_gets hX (q := ("TeaHouse$Verb", "CANCEL", "LTeaHouse$Verb;", .ref 1000004)) (by decide +kernel) gs_X8_87 dX8_cancel_1 ?_
  refine q_iload_n hX dX8_cancel_4 rfl ?_
  refine q_iconst hX dX8_cancel_5 (v := (nI 0)) (by decide) ?_
  refine q_iconst hX dX8_cancel_6 (v := (nI 0)) (by decide) ?_
  refine q_iconst hX dX8_cancel_7 (v := (nI 0)) (by decide) ?_
  refine q_V_ix hX hR hT (w_X8_change hf ⟨by decide, by decide⟩ h) lk_X8_70 (rc2_of (ci := 9) rfl rfl) dX8_cancel_8 rfl rfl (Nat.le_of_ble_eq_true rfl) (by omega) (by omega) (by omega) (fun _ _ h => h) ?_
  intro x1 I2 h
  exact q_x_iret hX hT dX8_cancel_11 h (by omega) (by omega)
set_option maxRecDepth 100000 in
set_option maxHeartbeats 4000000 in
theorem w_X8_serveNext {l : Launch} {D : DT} {L : LT}  {I : IT} {K : Int32 → IT → Prop} {KT : String → IT → Prop} (hf : l.stackTraces = false)  (h : f_X8_serveNext  I K KT) : Con2 l D m_X8_serveNext 8 [.ref 0] 1 6 I L (Px (Pi L K) L KT) := by
  refine Con2.of (by decide +kernel) (by simp [Value.category]) (Nat.le_of_ble_eq_true rfl) (fun X hX hT => ?_)
  have hX : OK X D cX8_serveNext "TeaHouse" 1 := hX
  have hT : RT X l D (some .int) (P2 (Px (Pi L K) L KT)) 8 1 6 := hT
  have hR := hT.room
  change J2 X D 1 0 0 I L 0 [.ref 0] []
  rw [f_X8_serveNext] at h
  refine q_aload_n hX dX8_serveNext_0 rfl ?_
  refine q_gets hX (q := ("TeaHouse$Verb", "SERVE", "LTeaHouse$Verb;", .ref 1000005)) (by decide +kernel) gs_X8_90 dX8_serveNext_1 ?_
  refine q_iconst hX dX8_serveNext_4 (v := (nI 0)) (by decide) ?_
  refine q_iconst hX dX8_serveNext_5 (v := (nI 0)) (by decide) ?_
  refine q_iconst hX dX8_serveNext_6 (v := (nI 0)) (by decide) ?_
  refine q_iconst hX dX8_serveNext_7 (v := (nI 0)) (by decide) ?_
  refine q_V_ix hX hR hT (w_X8_change hf ⟨by decide, by decide⟩ h) lk_X8_70 (rc2_of (ci := 9) rfl rfl) dX8_serveNext_8 rfl rfl (Nat.le_of_ble_eq_true rfl) (by omega) (by omega) (by omega) (fun _ _ h => h) ?_
  intro x1 I2 h
  exact q_x_iret hX hT dX8_serveNext_11 h (by omega) (by omega)
set_option maxRecDepth 100000 in
set_option maxHeartbeats 4000000 in
theorem w_X8_wash {l : Launch} {D : DT} {L : LT} {a1 : Int32} {I : IT} {K : Int32 → IT → Prop} {KT : String → IT → Prop} (hf : l.stackTraces = false)  (h : f_X8_wash a1 I K KT) : Con2 l D m_X8_wash 8 [.ref 0, .int a1] 1 6 I L (Px (Pi L K) L KT) := by
  refine Con2.of (by decide +kernel) (by simp [Value.category]) (Nat.le_of_ble_eq_true rfl) (fun X hX hT => ?_)
  have hX : OK X D cX8_wash "TeaHouse" 2 := hX
  have hT : RT X l D (some .int) (P2 (Px (Pi L K) L KT)) 8 1 6 := hT
  have hR := hT.room
  change J2 X D 2 0 0 I L 0 [.ref 0, .int a1] []
  rw [f_X8_wash] at h
  refine q_aload_n hX dX8_wash_0 rfl ?_
  refine q_gets hX (q := ("TeaHouse$Verb", "WASH", "LTeaHouse$Verb;", .ref 1000006)) (by decide +kernel) gs_X8_93 dX8_wash_1 ?_
  refine q_iload_n hX dX8_wash_4 rfl ?_
  refine q_iconst hX dX8_wash_5 (v := (nI 0)) (by decide) ?_
  refine q_iconst hX dX8_wash_6 (v := (nI 0)) (by decide) ?_
  refine q_iconst hX dX8_wash_7 (v := (nI 0)) (by decide) ?_
  refine q_V_ix hX hR hT (w_X8_change hf ⟨by decide, by decide⟩ h) lk_X8_70 (rc2_of (ci := 9) rfl rfl) dX8_wash_8 rfl rfl (Nat.le_of_ble_eq_true rfl) (by omega) (by omega) (by omega) (fun _ _ h => h) ?_
  intro x1 I2 h
  exact q_x_iret hX hT dX8_wash_11 h (by omega) (by omega)
set_option maxRecDepth 100000 in
set_option maxHeartbeats 4000000 in
theorem w_X8_eighths {l : Launch} {D : DT} {L : LT} {a0 : Int32} {I : IT} {K : UInt32 → Prop}  (h : f_X8_eighths a0 I K) : Con2 l D m_X8_eighths 1 [.int a0] 0 0 I L (Pf L (fun x I' => I' = I ∧ K x)) := by
  refine Con2.of (by decide +kernel) (by simp [Value.category]) (Nat.le_of_ble_eq_true rfl) (fun X hX hT => ?_)
  have hX : OK X D cX8_eighths "TeaHouse" 1 := hX
  have hT : RT X l D (some .float) (P2 (Pf L (fun x I' => I' = I ∧ K x))) 1 0 0 := hT
  have hR := hT.room
  change J2 X D 1 0 0 I L 0 [.int a0] []
  rw [f_X8_eighths] at h
  refine q_iload_n hX dX8_eighths_0 rfl ?_
  refine q_i2f hX dX8_eighths_1 ?_
  refine q_ldcfw hX kc_X8_417 dX8_eighths_2 ?_
  obtain ⟨z1, h⟩ := h
  refine q_fmul hX dX8_eighths_5 z1 ?_
  exact q_fretp hX hT dX8_eighths_6 h
set_option maxRecDepth 100000 in
set_option maxHeartbeats 4000000 in
theorem w_X8_sellSteam {l : Launch} {D : DT} {L : LT} {a1 : Int32} {I : IT} {K : UInt32 → IT → Prop} {KT : String → IT → Prop} (hf : l.stackTraces = false)  (h : f_X8_sellSteam a1 I K KT) : Con2 l D m_X8_sellSteam 8 [.ref 0, .int a1] 1 6 I L (Px (Pf L K) L KT) := by
  refine Con2.of (by decide +kernel) (by simp [Value.category]) (Nat.le_of_ble_eq_true rfl) (fun X hX hT => ?_)
  have hX : OK X D cX8_sellSteam "TeaHouse" 2 := hX
  have hT : RT X l D (some .float) (P2 (Px (Pf L K) L KT)) 8 1 6 := hT
  have hR := hT.room
  change J2 X D 2 0 0 I L 0 [.ref 0, .int a1] []
  rw [f_X8_sellSteam] at h
  refine q_aload_n hX dX8_sellSteam_0 rfl ?_
  refine q_gets hX (q := ("TeaHouse$Verb", "STEAM", "LTeaHouse$Verb;", .ref 1000007)) (by decide +kernel) gs_X8_96 dX8_sellSteam_1 ?_
  refine q_iload_n hX dX8_sellSteam_4 rfl ?_
  refine q_iconst hX dX8_sellSteam_5 (v := (nI 0)) (by decide) ?_
  refine q_iconst hX dX8_sellSteam_6 (v := (nI 0)) (by decide) ?_
  refine q_iconst hX dX8_sellSteam_7 (v := (nI 0)) (by decide) ?_
  refine q_V_ix hX hR hT (w_X8_change hf ⟨by decide, by decide⟩ h) lk_X8_70 (rc2_of (ci := 9) rfl rfl) dX8_sellSteam_8 rfl rfl (Nat.le_of_ble_eq_true rfl) (by omega) (by omega) (by omega) (fun _ _ h => h) ?_
  intro x1 I2 h
  refine q_S_fp hX hR (w_X8_eighths  h) lk_X8_99 dX8_sellSteam_11 rfl rfl (Nat.le_of_ble_eq_true rfl) (by omega) (by omega) (by omega) ?_
  intro x3 h
  exact q_x_fret hX hT dX8_sellSteam_14 h (by omega) (by omega)
set_option maxRecDepth 100000 in
set_option maxHeartbeats 4000000 in
theorem w_X8_setCupPrice {l : Launch} {D : DT} {L : LT} {a1 : Int32} {I : IT} {K : UInt32 → IT → Prop} {KT : String → IT → Prop} (hf : l.stackTraces = false)  (h : f_X8_setCupPrice a1 I K KT) : Con2 l D m_X8_setCupPrice 8 [.ref 0, .int a1] 1 6 I L (Px (Pf L K) L KT) := by
  refine Con2.of (by decide +kernel) (by simp [Value.category]) (Nat.le_of_ble_eq_true rfl) (fun X hX hT => ?_)
  have hX : OK X D cX8_setCupPrice "TeaHouse" 2 := hX
  have hT : RT X l D (some .float) (P2 (Px (Pf L K) L KT)) 8 1 6 := hT
  have hR := hT.room
  change J2 X D 2 0 0 I L 0 [.ref 0, .int a1] []
  rw [f_X8_setCupPrice] at h
  refine q_aload_n hX dX8_setCupPrice_0 rfl ?_
  refine q_gets hX (q := ("TeaHouse$Verb", "CUP", "LTeaHouse$Verb;", .ref 1000009)) (by decide +kernel) gs_X8_102 dX8_setCupPrice_1 ?_
  refine q_iload_n hX dX8_setCupPrice_4 rfl ?_
  refine q_iconst hX dX8_setCupPrice_5 (v := (nI 0)) (by decide) ?_
  refine q_iconst hX dX8_setCupPrice_6 (v := (nI 0)) (by decide) ?_
  refine q_iconst hX dX8_setCupPrice_7 (v := (nI 0)) (by decide) ?_
  refine q_V_ix hX hR hT (w_X8_change hf ⟨by decide, by decide⟩ h) lk_X8_70 (rc2_of (ci := 9) rfl rfl) dX8_setCupPrice_8 rfl rfl (Nat.le_of_ble_eq_true rfl) (by omega) (by omega) (by omega) (fun _ _ h => h) ?_
  intro x1 I2 h
  refine q_S_fp hX hR (w_X8_eighths  h) lk_X8_99 dX8_setCupPrice_11 rfl rfl (Nat.le_of_ble_eq_true rfl) (by omega) (by omega) (by omega) ?_
  intro x3 h
  exact q_x_fret hX hT dX8_setCupPrice_14 h (by omega) (by omega)
set_option maxRecDepth 100000 in
set_option maxHeartbeats 4000000 in
theorem w_X8_setSteamPrice {l : Launch} {D : DT} {L : LT} {a1 : Int32} {I : IT} {K : UInt32 → IT → Prop} {KT : String → IT → Prop} (hf : l.stackTraces = false)  (h : f_X8_setSteamPrice a1 I K KT) : Con2 l D m_X8_setSteamPrice 8 [.ref 0, .int a1] 1 6 I L (Px (Pf L K) L KT) := by
  refine Con2.of (by decide +kernel) (by simp [Value.category]) (Nat.le_of_ble_eq_true rfl) (fun X hX hT => ?_)
  have hX : OK X D cX8_setSteamPrice "TeaHouse" 2 := hX
  have hT : RT X l D (some .float) (P2 (Px (Pf L K) L KT)) 8 1 6 := hT
  have hR := hT.room
  change J2 X D 2 0 0 I L 0 [.ref 0, .int a1] []
  rw [f_X8_setSteamPrice] at h
  refine q_aload_n hX dX8_setSteamPrice_0 rfl ?_
  refine q_gets hX (q := ("TeaHouse$Verb", "LITRE", "LTeaHouse$Verb;", .ref 1000010)) (by decide +kernel) gs_X8_105 dX8_setSteamPrice_1 ?_
  refine q_iload_n hX dX8_setSteamPrice_4 rfl ?_
  refine q_iconst hX dX8_setSteamPrice_5 (v := (nI 0)) (by decide) ?_
  refine q_iconst hX dX8_setSteamPrice_6 (v := (nI 0)) (by decide) ?_
  refine q_iconst hX dX8_setSteamPrice_7 (v := (nI 0)) (by decide) ?_
  refine q_V_ix hX hR hT (w_X8_change hf ⟨by decide, by decide⟩ h) lk_X8_70 (rc2_of (ci := 9) rfl rfl) dX8_setSteamPrice_8 rfl rfl (Nat.le_of_ble_eq_true rfl) (by omega) (by omega) (by omega) (fun _ _ h => h) ?_
  intro x1 I2 h
  refine q_i2f hX dX8_setSteamPrice_11 ?_
  exact q_x_fret hX hT dX8_setSteamPrice_12 h (by omega) (by omega)
set_option maxRecDepth 100000 in
set_option maxHeartbeats 4000000 in
theorem w_X8_setAttendant_b13 {X : XT} {D : DT} {l : Launch} {L : LT} {a1 : Int32} {K : Int32 → IT → Prop} {KT : String → IT → Prop} (hf : l.stackTraces = false) (hX : OK X D cX8_setAttendant "TeaHouse" 2) (hT : RT X l D (some .boolean) (P2 (Px (Pz L K) L KT)) 8 1 6) (ha1 : isZ a1)  : ∀ {c w : Nat}, c + (1) ≤ 1 → w + (6) ≤ 6 → ∀ (s2 : Int32) (I : IT), isZ s2 → isC s2 → f_X8_setAttendant_b13 a1 K KT s2 I → J2 X D 2 c w I L 13 [.retAddr 0, .retAddr 0] [.int s2, .ref 1000011, .ref 0] := by
  have hR := hT.room
  intro c w hc hw s2 I hzs2 hcs2 h
  rw [f_X8_setAttendant_b13] at h
  refine q_iconst hX dX8_setAttendant_13 (v := (nI 0)) (by decide) ?_
  refine q_iconst hX dX8_setAttendant_14 (v := (nI 0)) (by decide) ?_
  refine q_iconst hX dX8_setAttendant_15 (v := (nI 0)) (by decide) ?_
  refine q_V_ix hX hR hT (w_X8_change hf ⟨by decide, by decide⟩ h) lk_X8_70 (rc2_of (ci := 9) rfl rfl) dX8_setAttendant_16 rfl rfl (Nat.le_of_ble_eq_true rfl) (by omega) (by omega) (by omega) (fun _ _ h => h) ?_
  intro x1 I2 h
  refine q_if_eq hX dX8_setAttendant_19 (tgt := 26) (by decide) (fun q3 => ?_) (fun q3 => ?_)
  · replace h := ite_t q3 h
    refine q_iconst hX dX8_setAttendant_26 (v := (nI 0)) (by decide) ?_
    exact q_x_zret hX hT dX8_setAttendant_27 (Or.inl rfl) h (by omega) (by omega)
  · replace h := ite_f q3 h
    refine q_iconst hX dX8_setAttendant_22 (v := (nI 1)) (by decide) ?_
    refine q_goto hX dX8_setAttendant_23 (tgt := 27) (by decide) ?_
    exact q_x_zret hX hT dX8_setAttendant_27 (Or.inr rfl) h (by omega) (by omega)
set_option maxRecDepth 100000 in
set_option maxHeartbeats 4000000 in
theorem w_X8_setAttendant {l : Launch} {D : DT} {L : LT} {a1 : Int32} {I : IT} {K : Int32 → IT → Prop} {KT : String → IT → Prop} (hf : l.stackTraces = false) (ha1 : isZ a1) (h : f_X8_setAttendant a1 I K KT) : Con2 l D m_X8_setAttendant 8 [.ref 0, .int a1] 1 6 I L (Px (Pz L K) L KT) := by
  refine Con2.of (by decide +kernel) (by simp [Value.category]) (Nat.le_of_ble_eq_true rfl) (fun X hX hT => ?_)
  have hX : OK X D cX8_setAttendant "TeaHouse" 2 := hX
  have hT : RT X l D (some .boolean) (P2 (Px (Pz L K) L KT)) 8 1 6 := hT
  have hR := hT.room
  change J2 X D 2 0 0 I L 0 [.ref 0, .int a1] []
  rw [f_X8_setAttendant] at h
  refine q_aload_n hX dX8_setAttendant_0 rfl ?_
  refine q_gets hX (q := ("TeaHouse$Verb", "ATTEND", "LTeaHouse$Verb;", .ref 1000011)) (by decide +kernel) gs_X8_108 dX8_setAttendant_1 ?_
  refine q_iload_n hX dX8_setAttendant_4 rfl ?_
  refine q_if_eq hX dX8_setAttendant_5 (tgt := 12) (by decide) (fun q1 => ?_) (fun q1 => ?_)
  · replace h := ite_t q1 h
    refine q_iconst hX dX8_setAttendant_12 (v := (nI 0)) (by decide) ?_
    exact q_dr (w_X8_setAttendant_b13 hf hX hT ha1    (by omega) (by omega) _ _ (Or.inl rfl) (isC_n (by decide)) h) ⟨Or.inr rfl, Or.inr rfl, trivial⟩
  · replace h := ite_f q1 h
    refine q_iconst hX dX8_setAttendant_8 (v := (nI 1)) (by decide) ?_
    refine q_goto hX dX8_setAttendant_9 (tgt := 13) (by decide) ?_
    exact q_dr (w_X8_setAttendant_b13 hf hX hT ha1    (by omega) (by omega) _ _ (Or.inr rfl) (isC_n (by decide)) h) ⟨Or.inr rfl, Or.inr rfl, trivial⟩
set_option maxRecDepth 100000 in
set_option maxHeartbeats 4000000 in
theorem w_X8_pass {l : Launch} {D : DT} {L : LT} {a1 : Int32} {I : IT} {K : Int32 → IT → Prop} {KT : String → IT → Prop} (hf : l.stackTraces = false)  (h : f_X8_pass a1 I K KT) : Con2 l D m_X8_pass 8 [.ref 0, .int a1] 1 6 I L (Px (Pi L K) L KT) := by
  refine Con2.of (by decide +kernel) (by simp [Value.category]) (Nat.le_of_ble_eq_true rfl) (fun X hX hT => ?_)
  have hX : OK X D cX8_pass "TeaHouse" 2 := hX
  have hT : RT X l D (some .int) (P2 (Px (Pi L K) L KT)) 8 1 6 := hT
  have hR := hT.room
  change J2 X D 2 0 0 I L 0 [.ref 0, .int a1] []
  rw [f_X8_pass] at h
  refine q_aload_n hX dX8_pass_0 rfl ?_
  refine q_gets hX (q := ("TeaHouse$Verb", "MINUTES", "LTeaHouse$Verb;", .ref 1000008)) (by decide +kernel) gs_X8_111 dX8_pass_1 ?_
  refine q_iload_n hX dX8_pass_4 rfl ?_
  refine q_iconst hX dX8_pass_5 (v := (nI 0)) (by decide) ?_
  refine q_iconst hX dX8_pass_6 (v := (nI 0)) (by decide) ?_
  refine q_iconst hX dX8_pass_7 (v := (nI 0)) (by decide) ?_
  refine q_V_ix hX hR hT (w_X8_change hf ⟨by decide, by decide⟩ h) lk_X8_70 (rc2_of (ci := 9) rfl rfl) dX8_pass_8 rfl rfl (Nat.le_of_ble_eq_true rfl) (by omega) (by omega) (by omega) (fun _ _ h => h) ?_
  intro x1 I2 h
  exact q_x_iret hX hT dX8_pass_11 h (by omega) (by omega)
set_option maxRecDepth 100000 in
set_option maxHeartbeats 4000000 in
theorem w_X8_closeNight {l : Launch} {D : DT} {L : LT}  {I : IT} {K : UInt32 → IT → Prop} {KT : String → IT → Prop} (hf : l.stackTraces = false)  (h : f_X8_closeNight  I K KT) : Con2 l D m_X8_closeNight 8 [.ref 0] 1 6 I L (Px (Pf L K) L KT) := by
  refine Con2.of (by decide +kernel) (by simp [Value.category]) (Nat.le_of_ble_eq_true rfl) (fun X hX hT => ?_)
  have hX : OK X D cX8_closeNight "TeaHouse" 1 := hX
  have hT : RT X l D (some .float) (P2 (Px (Pf L K) L KT)) 8 1 6 := hT
  have hR := hT.room
  change J2 X D 1 0 0 I L 0 [.ref 0] []
  rw [f_X8_closeNight] at h
  refine q_aload_n hX dX8_closeNight_0 rfl ?_
  refine q_gets hX (q := ("TeaHouse$Verb", "CLOSE", "LTeaHouse$Verb;", .ref 1000012)) (by decide +kernel) gs_X8_114 dX8_closeNight_1 ?_
  refine q_iconst hX dX8_closeNight_4 (v := (nI 0)) (by decide) ?_
  refine q_iconst hX dX8_closeNight_5 (v := (nI 0)) (by decide) ?_
  refine q_iconst hX dX8_closeNight_6 (v := (nI 0)) (by decide) ?_
  refine q_iconst hX dX8_closeNight_7 (v := (nI 0)) (by decide) ?_
  refine q_V_ix hX hR hT (w_X8_change hf ⟨by decide, by decide⟩ h) lk_X8_70 (rc2_of (ci := 9) rfl rfl) dX8_closeNight_8 rfl rfl (Nat.le_of_ble_eq_true rfl) (by omega) (by omega) (by omega) (fun _ _ h => h) ?_
  intro x1 I2 h
  refine q_S_fp hX hR (w_X8_eighths  h) lk_X8_99 dX8_closeNight_11 rfl rfl (Nat.le_of_ble_eq_true rfl) (by omega) (by omega) (by omega) ?_
  intro x3 h
  exact q_x_fret hX hT dX8_closeNight_14 h (by omega) (by omega)
set_option maxRecDepth 100000 in
set_option maxHeartbeats 4000000 in
theorem w_X8_kettleCount {l : Launch} {D : DT} {L : LT}  {I : IT} {K : Int32 → Prop}  (h : f_X8_kettleCount  I K) : Con2 l D m_X8_kettleCount 1 [.ref 0] 0 0 I L (Pi L (fun x I' => I' = I ∧ K x)) := by
  refine Con2.of (by decide +kernel) (by simp [Value.category]) (Nat.le_of_ble_eq_true rfl) (fun X hX hT => ?_)
  have hX : OK X D cX8_kettleCount "TeaHouse" 1 := hX
  have hT : RT X l D (some .int) (P2 (Pi L (fun x I' => I' = I ∧ K x))) 1 0 0 := hT
  have hR := hT.room
  change J2 X D 1 0 0 I L 0 [.ref 0] []
  rw [f_X8_kettleCount] at h
  refine q_aload_n hX dX8_kettleCount_0 rfl ?_
  refine q_getR hX gf_X8_12 rfl dX8_kettleCount_1 (at_of (n := 0) rfl) (b := 1) rfl ?_
  refine q_getR hX gf_X8_117 rfl dX8_kettleCount_4 (at_of (n := 0) rfl) (b := 2) rfl ?_
  refine q_getI hX gf_X8_120 rfl dX8_kettleCount_7 (at_of (n := 0) rfl) ?_
  exact q_iretp hX hT dX8_kettleCount_10 h
set_option maxRecDepth 100000 in
set_option maxHeartbeats 4000000 in
theorem w_X8_requireKettle {l : Launch} {D : DT} {L : LT} {a1 : Int32} {I : IT} {K : Prop} {KT : String → Prop} (hf : l.stackTraces = false)  (h : f_X8_requireKettle a1 I K KT) : Con2 l D m_X8_requireKettle 6 [.ref 0, .int a1] 1 6 I L (Px (Pv L (fun I' => I' = I ∧ K)) L (fun E I' => I' = I ∧ KT E)) := by
  refine Con2.of (by decide +kernel) (by simp [Value.category]) (Nat.le_of_ble_eq_true rfl) (fun X hX hT => ?_)
  have hX : OK X D cX8_requireKettle "TeaHouse" 2 := hX
  have hT : RT X l D none (P2 (Px (Pv L (fun I' => I' = I ∧ K)) L (fun E I' => I' = I ∧ KT E))) 6 1 6 := hT
  have hR := hT.room
  change J2 X D 2 0 0 I L 0 [.ref 0, .int a1] []
  rw [f_X8_requireKettle] at h
  refine q_aload_n hX dX8_requireKettle_0 rfl ?_
  refine q_getR hX gf_X8_12 rfl dX8_requireKettle_1 (at_of (n := 0) rfl) (b := 1) rfl ?_
  refine q_getR hX gf_X8_117 rfl dX8_requireKettle_4 (at_of (n := 0) rfl) (b := 2) rfl ?_
  refine q_iload_n hX dX8_requireKettle_7 rfl ?_
  refine q_V_zp hX hR (w_X3_has (ket_n (a := 2) rfl) h) lk_X8_403 (rc2_of (ci := 6) rfl rfl) dX8_requireKettle_8 rfl rfl (Nat.le_of_ble_eq_true rfl) (by omega) (by omega) (by omega) ?_
  intro x1 hrx1 h
  refine q_if_ne hX dX8_requireKettle_11 (tgt := 25) (by decide) (fun q2 => ?_) (fun q2 => ?_)
  · replace h := ite_f q2 h
    exact q_x_vretp hX hT dX8_requireKettle_25 h (by omega) (by omega)
  · replace h := ite_t q2 h
    exact q_throwWp hX hT hf th_226 (text := "there is no such kettle") (code := 40) (by decide +kernel) dX8_requireKettle_14 dX8_requireKettle_17 dX8_requireKettle_18 dX8_requireKettle_21 dX8_requireKettle_24 (by decide) (by omega) h (by omega) (by omega)
set_option maxRecDepth 100000 in
set_option maxHeartbeats 4000000 in
theorem w_X8_capacity {l : Launch} {D : DT} {L : LT} {a1 : Int32} {I : IT} {K : UInt32 → Prop} {KT : String → Prop} (hf : l.stackTraces = false)  (h : f_X8_capacity a1 I K KT) : Con2 l D m_X8_capacity 7 [.ref 0, .int a1] 1 6 I L (Px (Pf L (fun x I' => I' = I ∧ K x)) L (fun E I' => I' = I ∧ KT E)) := by
  refine Con2.of (by decide +kernel) (by simp [Value.category]) (Nat.le_of_ble_eq_true rfl) (fun X hX hT => ?_)
  have hX : OK X D cX8_capacity "TeaHouse" 2 := hX
  have hT : RT X l D (some .float) (P2 (Px (Pf L (fun x I' => I' = I ∧ K x)) L (fun E I' => I' = I ∧ KT E))) 7 1 6 := hT
  have hR := hT.room
  change J2 X D 2 0 0 I L 0 [.ref 0, .int a1] []
  rw [f_X8_capacity] at h
  refine q_aload_n hX dX8_capacity_0 rfl ?_
  refine q_iload_n hX dX8_capacity_1 rfl ?_
  refine q_V_vpx hX hR hT (w_X8_requireKettle hf  h) lk_X8_123 (rc2_of (ci := 9) rfl rfl) dX8_capacity_2 rfl rfl (Nat.le_of_ble_eq_true rfl) (by omega) (by omega) (by omega) (fun _ _ h => h) ?_
  intro h
  refine q_aload_n hX dX8_capacity_5 rfl ?_
  refine q_getR hX gf_X8_12 rfl dX8_capacity_6 (at_of (n := 0) rfl) (b := 1) rfl ?_
  refine q_getR hX gf_X8_117 rfl dX8_capacity_9 (at_of (n := 0) rfl) (b := 2) rfl ?_
  refine q_getR hX gf_X8_127 rfl dX8_capacity_12 (at_of (n := 0) rfl) (b := 3) rfl ?_
  refine q_iload_n hX dX8_capacity_15 rfl ?_
  obtain ⟨z1, h⟩ := h
  refine q_iald hX dX8_capacity_16 (at_of (a := 3) (t := 22) (n := 4) rfl) (inr_e z1) (inr_lt z1) (by decide) ?_
  refine q_S_fp hX hR (w_X8_eighths  h) lk_X8_99 dX8_capacity_17 rfl rfl (Nat.le_of_ble_eq_true rfl) (by omega) (by omega) (by omega) ?_
  intro x2 h
  exact q_x_fretp hX hT dX8_capacity_20 h (by omega) (by omega)
set_option maxRecDepth 100000 in
set_option maxHeartbeats 4000000 in
theorem w_X8_volume {l : Launch} {D : DT} {L : LT} {a1 : Int32} {I : IT} {K : UInt32 → Prop} {KT : String → Prop} (hf : l.stackTraces = false)  (h : f_X8_volume a1 I K KT) : Con2 l D m_X8_volume 7 [.ref 0, .int a1] 1 6 I L (Px (Pf L (fun x I' => I' = I ∧ K x)) L (fun E I' => I' = I ∧ KT E)) := by
  refine Con2.of (by decide +kernel) (by simp [Value.category]) (Nat.le_of_ble_eq_true rfl) (fun X hX hT => ?_)
  have hX : OK X D cX8_volume "TeaHouse" 2 := hX
  have hT : RT X l D (some .float) (P2 (Px (Pf L (fun x I' => I' = I ∧ K x)) L (fun E I' => I' = I ∧ KT E))) 7 1 6 := hT
  have hR := hT.room
  change J2 X D 2 0 0 I L 0 [.ref 0, .int a1] []
  rw [f_X8_volume] at h
  refine q_aload_n hX dX8_volume_0 rfl ?_
  refine q_iload_n hX dX8_volume_1 rfl ?_
  refine q_V_vpx hX hR hT (w_X8_requireKettle hf  h) lk_X8_123 (rc2_of (ci := 9) rfl rfl) dX8_volume_2 rfl rfl (Nat.le_of_ble_eq_true rfl) (by omega) (by omega) (by omega) (fun _ _ h => h) ?_
  intro h
  refine q_aload_n hX dX8_volume_5 rfl ?_
  refine q_getR hX gf_X8_12 rfl dX8_volume_6 (at_of (n := 0) rfl) (b := 1) rfl ?_
  refine q_getR hX gf_X8_117 rfl dX8_volume_9 (at_of (n := 0) rfl) (b := 2) rfl ?_
  refine q_getR hX gf_X8_131 rfl dX8_volume_12 (at_of (n := 0) rfl) (b := 4) rfl ?_
  refine q_iload_n hX dX8_volume_15 rfl ?_
  obtain ⟨z1, h⟩ := h
  refine q_iald hX dX8_volume_16 (at_of (a := 4) (t := 22) (n := 4) rfl) (inr_e z1) (inr_lt z1) (by decide) ?_
  refine q_S_fp hX hR (w_X8_eighths  h) lk_X8_99 dX8_volume_17 rfl rfl (Nat.le_of_ble_eq_true rfl) (by omega) (by omega) (by omega) ?_
  intro x2 h
  exact q_x_fretp hX hT dX8_volume_20 h (by omega) (by omega)
set_option maxRecDepth 100000 in
set_option maxHeartbeats 4000000 in
theorem w_X8_temperature {l : Launch} {D : DT} {L : LT} {a1 : Int32} {I : IT} {K : UInt32 → Prop} {KT : String → Prop} (hf : l.stackTraces = false)  (h : f_X8_temperature a1 I K KT) : Con2 l D m_X8_temperature 7 [.ref 0, .int a1] 1 6 I L (Px (Pf L (fun x I' => I' = I ∧ K x)) L (fun E I' => I' = I ∧ KT E)) := by
  refine Con2.of (by decide +kernel) (by simp [Value.category]) (Nat.le_of_ble_eq_true rfl) (fun X hX hT => ?_)
  have hX : OK X D cX8_temperature "TeaHouse" 2 := hX
  have hT : RT X l D (some .float) (P2 (Px (Pf L (fun x I' => I' = I ∧ K x)) L (fun E I' => I' = I ∧ KT E))) 7 1 6 := hT
  have hR := hT.room
  change J2 X D 2 0 0 I L 0 [.ref 0, .int a1] []
  rw [f_X8_temperature] at h
  refine q_aload_n hX dX8_temperature_0 rfl ?_
  refine q_iload_n hX dX8_temperature_1 rfl ?_
  refine q_V_vpx hX hR hT (w_X8_requireKettle hf  h) lk_X8_123 (rc2_of (ci := 9) rfl rfl) dX8_temperature_2 rfl rfl (Nat.le_of_ble_eq_true rfl) (by omega) (by omega) (by omega) (fun _ _ h => h) ?_
  intro h
  refine q_aload_n hX dX8_temperature_5 rfl ?_
  refine q_getR hX gf_X8_12 rfl dX8_temperature_6 (at_of (n := 0) rfl) (b := 1) rfl ?_
  refine q_getR hX gf_X8_117 rfl dX8_temperature_9 (at_of (n := 0) rfl) (b := 2) rfl ?_
  refine q_getR hX gf_X8_134 rfl dX8_temperature_12 (at_of (n := 0) rfl) (b := 5) rfl ?_
  refine q_iload_n hX dX8_temperature_15 rfl ?_
  obtain ⟨z1, h⟩ := h
  refine q_iald hX dX8_temperature_16 (at_of (a := 5) (t := 22) (n := 4) rfl) (inr_e z1) (inr_lt z1) (by decide) ?_
  refine q_S_fp hX hR (w_X8_halves  h) lk_X8_77 dX8_temperature_17 rfl rfl (Nat.le_of_ble_eq_true rfl) (by omega) (by omega) (by omega) ?_
  intro x2 h
  exact q_x_fretp hX hT dX8_temperature_20 h (by omega) (by omega)
set_option maxRecDepth 100000 in
set_option maxHeartbeats 4000000 in
theorem w_X8_bitsOfHalves_b2 {X : XT} {D : DT} {l : Launch} {L : LT} {a0 : Int32} {I : IT} {K : Int32 → Prop} {X22 : Int32 → Prop} (hX : OK X D cX8_bitsOfHalves "TeaHouse" 4) (hT : RT X l D (some .int) (P2 (Pi L (fun x I' => I' = I ∧ K x))) 1 0 0)  (hx22 : ∀ (v1 : Int32), X22 v1 → J2 X D 4 0 0 I L 22 [.int a0, .int v1, .retAddr 0, .retAddr 0] []) : ∀ (n : Nat), ∀ (v1 : Int32), f_X8_bitsOfHalves_b2 a0 I X22 K n v1 → J2 X D 4 0 0 I L 2 [.int a0, .int v1, .retAddr 0, .retAddr 0] [] := by
  have hR := hT.room
  intro n
  induction n with
  | zero => intro v1 h; exact False.elim h
  | succ n ih =>
    intro v1 h
    rw [f_X8_bitsOfHalves_b2] at h
    refine q_iload_n hX dX8_bitsOfHalves_2 rfl ?_
    refine q_bipush hX dX8_bitsOfHalves_3 (v := (nI 22)) (by decide) ?_
    refine q_icmp_ge hX dX8_bitsOfHalves_5 (tgt := 22) (by decide) (fun q1 => ?_) (fun q1 => ?_)
    · replace h := ite_t q1 h
      exact q_dr (hx22 _  h) ⟨Or.inl rfl, Or.inl rfl, Or.inl rfl, Or.inl rfl, trivial⟩
    · replace h := ite_f q1 h
      refine q_iload_n hX dX8_bitsOfHalves_8 rfl ?_
      refine q_iload_n hX dX8_bitsOfHalves_9 rfl ?_
      refine q_iconst hX dX8_bitsOfHalves_10 (v := (nI 1)) (by decide) ?_
      refine q_iadd hX dX8_bitsOfHalves_11 ?_
      refine q_ishr hX dX8_bitsOfHalves_12 ?_
      refine q_if_eq hX dX8_bitsOfHalves_13 (tgt := 22) (by decide) (fun q2 => ?_) (fun q2 => ?_)
      · replace h := ite_t q2 h
        exact q_dr (hx22 _  h) ⟨Or.inl rfl, Or.inl rfl, Or.inl rfl, Or.inl rfl, trivial⟩
      · replace h := ite_f q2 h
        replace h := bnd_e h
        refine q_iinc hX dX8_bitsOfHalves_16 (by decide) rfl (v := _ + nI 1) (ls' := [_, _, _, _]) rfl rfl ?_
        refine q_goto hX dX8_bitsOfHalves_19 (tgt := 2) (by decide) ?_
        exact q_dr (ih _  h) ⟨Or.inl rfl, Or.inl rfl, Or.inl rfl, Or.inl rfl, trivial⟩
set_option maxRecDepth 100000 in
set_option maxHeartbeats 4000000 in
theorem w_X8_bitsOfHalves_b22 {X : XT} {D : DT} {l : Launch} {L : LT} {a0 : Int32} {I : IT} {K : Int32 → Prop} (hX : OK X D cX8_bitsOfHalves "TeaHouse" 4) (hT : RT X l D (some .int) (P2 (Pi L (fun x I' => I' = I ∧ K x))) 1 0 0)   : ∀ (v1 : Int32), f_X8_bitsOfHalves_b22 a0 I K v1 → J2 X D 4 0 0 I L 22 [.int a0, .int v1, .retAddr 0, .retAddr 0] [] := by
  have hR := hT.room
  intro v1 h
  rw [f_X8_bitsOfHalves_b22] at h
  refine q_iload_n hX dX8_bitsOfHalves_22 rfl ?_
  refine q_iconst hX dX8_bitsOfHalves_23 (v := (nI 1)) (by decide) ?_
  refine q_isub hX dX8_bitsOfHalves_24 ?_
  refine q_bipush hX dX8_bitsOfHalves_25 (v := (nI 127)) (by decide) ?_
  refine q_iadd hX dX8_bitsOfHalves_27 ?_
  replace h := bnd_e h
  refine q_istore_n hX dX8_bitsOfHalves_28 (by decide) (ls' := [_, _, _, _]) rfl ?_
  refine q_iload_n hX dX8_bitsOfHalves_29 rfl ?_
  refine q_iconst hX dX8_bitsOfHalves_30 (v := (nI 1)) (by decide) ?_
  refine q_iload_n hX dX8_bitsOfHalves_31 rfl ?_
  refine q_ishl hX dX8_bitsOfHalves_32 ?_
  refine q_isub hX dX8_bitsOfHalves_33 ?_
  refine q_bipush hX dX8_bitsOfHalves_34 (v := (nI 23)) (by decide) ?_
  refine q_iload_n hX dX8_bitsOfHalves_36 rfl ?_
  refine q_isub hX dX8_bitsOfHalves_37 ?_
  refine q_ishl hX dX8_bitsOfHalves_38 ?_
  replace h := bnd_e h
  refine q_istore_n hX dX8_bitsOfHalves_39 (by decide) (ls' := [_, _, _, _]) rfl ?_
  refine q_iload_n hX dX8_bitsOfHalves_40 rfl ?_
  refine q_bipush hX dX8_bitsOfHalves_41 (v := (nI 23)) (by decide) ?_
  refine q_ishl hX dX8_bitsOfHalves_43 ?_
  refine q_iload_n hX dX8_bitsOfHalves_44 rfl ?_
  refine q_ior hX dX8_bitsOfHalves_45 ?_
  exact q_iretp hX hT dX8_bitsOfHalves_46 h
set_option maxRecDepth 100000 in
set_option maxHeartbeats 4000000 in
theorem w_X8_bitsOfHalves {l : Launch} {D : DT} {L : LT} {a0 : Int32} {I : IT} {K : Int32 → Prop}  (h : f_X8_bitsOfHalves a0 I K) : Con2 l D m_X8_bitsOfHalves 1 [.int a0] 0 0 I L (Pi L (fun x I' => I' = I ∧ K x)) := by
  refine Con2.of (by decide +kernel) (by simp [Value.category]) (Nat.le_of_ble_eq_true rfl) (fun X hX hT => ?_)
  have hX : OK X D cX8_bitsOfHalves "TeaHouse" 4 := hX
  have hT : RT X l D (some .int) (P2 (Pi L (fun x I' => I' = I ∧ K x))) 1 0 0 := hT
  have hR := hT.room
  change J2 X D 4 0 0 I L 0 [.int a0, .retAddr 0, .retAddr 0, .retAddr 0] []
  rw [f_X8_bitsOfHalves] at h
  refine q_iconst hX dX8_bitsOfHalves_0 (v := (nI 0)) (by decide) ?_
  refine q_istore_n hX dX8_bitsOfHalves_1 (by decide) (ls' := [_, _, _, _]) rfl ?_
  exact q_dr (w_X8_bitsOfHalves_b2 hX hT  (fun _ h => w_X8_bitsOfHalves_b22 hX hT    _  h) _  _  h) ⟨Or.inl rfl, Or.inl rfl, Or.inl rfl, Or.inl rfl, trivial⟩
set_option maxRecDepth 100000 in
set_option maxHeartbeats 4000000 in
theorem w_X8_temperatureBits {l : Launch} {D : DT} {L : LT} {a1 : Int32} {I : IT} {K : Int32 → Prop} {KT : String → Prop} (hf : l.stackTraces = false)  (h : f_X8_temperatureBits a1 I K KT) : Con2 l D m_X8_temperatureBits 7 [.ref 0, .int a1] 1 6 I L (Px (Pi L (fun x I' => I' = I ∧ K x)) L (fun E I' => I' = I ∧ KT E)) := by
  refine Con2.of (by decide +kernel) (by simp [Value.category]) (Nat.le_of_ble_eq_true rfl) (fun X hX hT => ?_)
  have hX : OK X D cX8_temperatureBits "TeaHouse" 2 := hX
  have hT : RT X l D (some .int) (P2 (Px (Pi L (fun x I' => I' = I ∧ K x)) L (fun E I' => I' = I ∧ KT E))) 7 1 6 := hT
  have hR := hT.room
  change J2 X D 2 0 0 I L 0 [.ref 0, .int a1] []
  rw [f_X8_temperatureBits] at h
  refine q_aload_n hX dX8_temperatureBits_0 rfl ?_
  refine q_iload_n hX dX8_temperatureBits_1 rfl ?_
  refine q_V_vpx hX hR hT (w_X8_requireKettle hf  h) lk_X8_123 (rc2_of (ci := 9) rfl rfl) dX8_temperatureBits_2 rfl rfl (Nat.le_of_ble_eq_true rfl) (by omega) (by omega) (by omega) (fun _ _ h => h) ?_
  intro h
  refine q_aload_n hX dX8_temperatureBits_5 rfl ?_
  refine q_getR hX gf_X8_12 rfl dX8_temperatureBits_6 (at_of (n := 0) rfl) (b := 1) rfl ?_
  refine q_getR hX gf_X8_117 rfl dX8_temperatureBits_9 (at_of (n := 0) rfl) (b := 2) rfl ?_
  refine q_getR hX gf_X8_134 rfl dX8_temperatureBits_12 (at_of (n := 0) rfl) (b := 5) rfl ?_
  refine q_iload_n hX dX8_temperatureBits_15 rfl ?_
  obtain ⟨z1, h⟩ := h
  refine q_iald hX dX8_temperatureBits_16 (at_of (a := 5) (t := 22) (n := 4) rfl) (inr_e z1) (inr_lt z1) (by decide) ?_
  refine q_S_ip hX hR (w_X8_bitsOfHalves  h) lk_X8_137 dX8_temperatureBits_17 rfl rfl (Nat.le_of_ble_eq_true rfl) (by omega) (by omega) (by omega) ?_
  intro x2 h
  exact q_x_iretp hX hT dX8_temperatureBits_20 h (by omega) (by omega)
set_option maxRecDepth 100000 in
set_option maxHeartbeats 4000000 in
theorem w_X8_burner {l : Launch} {D : DT} {L : LT} {a1 : Int32} {I : IT} {K : Int32 → Prop} {KT : String → Prop} (hf : l.stackTraces = false)  (h : f_X8_burner a1 I K KT) : Con2 l D m_X8_burner 7 [.ref 0, .int a1] 1 6 I L (Px (Pi L (fun x I' => I' = I ∧ K x)) L (fun E I' => I' = I ∧ KT E)) := by
  refine Con2.of (by decide +kernel) (by simp [Value.category]) (Nat.le_of_ble_eq_true rfl) (fun X hX hT => ?_)
  have hX : OK X D cX8_burner "TeaHouse" 2 := hX
  have hT : RT X l D (some .int) (P2 (Px (Pi L (fun x I' => I' = I ∧ K x)) L (fun E I' => I' = I ∧ KT E))) 7 1 6 := hT
  have hR := hT.room
  change J2 X D 2 0 0 I L 0 [.ref 0, .int a1] []
  rw [f_X8_burner] at h
  refine q_aload_n hX dX8_burner_0 rfl ?_
  refine q_iload_n hX dX8_burner_1 rfl ?_
  refine q_V_vpx hX hR hT (w_X8_requireKettle hf  h) lk_X8_123 (rc2_of (ci := 9) rfl rfl) dX8_burner_2 rfl rfl (Nat.le_of_ble_eq_true rfl) (by omega) (by omega) (by omega) (fun _ _ h => h) ?_
  intro h
  refine q_aload_n hX dX8_burner_5 rfl ?_
  refine q_getR hX gf_X8_12 rfl dX8_burner_6 (at_of (n := 0) rfl) (b := 1) rfl ?_
  refine q_getR hX gf_X8_117 rfl dX8_burner_9 (at_of (n := 0) rfl) (b := 2) rfl ?_
  refine q_getR hX gf_X8_141 rfl dX8_burner_12 (at_of (n := 0) rfl) (b := 6) rfl ?_
  refine q_iload_n hX dX8_burner_15 rfl ?_
  obtain ⟨z1, h⟩ := h
  refine q_iald hX dX8_burner_16 (at_of (a := 6) (t := 22) (n := 4) rfl) (inr_e z1) (inr_lt z1) (by decide) ?_
  exact q_x_iretp hX hT dX8_burner_17 h (by omega) (by omega)
set_option maxRecDepth 100000 in
set_option maxHeartbeats 4000000 in
theorem w_X8_isBoiling {l : Launch} {D : DT} {L : LT} {a1 : Int32} {I : IT} {K : Int32 → Prop} {KT : String → Prop} (hf : l.stackTraces = false)  (h : f_X8_isBoiling a1 I K KT) : Con2 l D m_X8_isBoiling 7 [.ref 0, .int a1] 1 6 I L (Px (Pz L (fun x I' => I' = I ∧ K x)) L (fun E I' => I' = I ∧ KT E)) := by
  refine Con2.of (by decide +kernel) (by simp [Value.category]) (Nat.le_of_ble_eq_true rfl) (fun X hX hT => ?_)
  have hX : OK X D cX8_isBoiling "TeaHouse" 2 := hX
  have hT : RT X l D (some .boolean) (P2 (Px (Pz L (fun x I' => I' = I ∧ K x)) L (fun E I' => I' = I ∧ KT E))) 7 1 6 := hT
  have hR := hT.room
  change J2 X D 2 0 0 I L 0 [.ref 0, .int a1] []
  rw [f_X8_isBoiling] at h
  refine q_aload_n hX dX8_isBoiling_0 rfl ?_
  refine q_iload_n hX dX8_isBoiling_1 rfl ?_
  refine q_V_vpx hX hR hT (w_X8_requireKettle hf  h) lk_X8_123 (rc2_of (ci := 9) rfl rfl) dX8_isBoiling_2 rfl rfl (Nat.le_of_ble_eq_true rfl) (by omega) (by omega) (by omega) (fun _ _ h => h) ?_
  intro h
  refine q_aload_n hX dX8_isBoiling_5 rfl ?_
  refine q_getR hX gf_X8_12 rfl dX8_isBoiling_6 (at_of (n := 0) rfl) (b := 1) rfl ?_
  refine q_getR hX gf_X8_117 rfl dX8_isBoiling_9 (at_of (n := 0) rfl) (b := 2) rfl ?_
  refine q_getR hX gf_X8_144 rfl dX8_isBoiling_12 (at_of (n := 0) rfl) (b := 7) rfl ?_
  refine q_iload_n hX dX8_isBoiling_15 rfl ?_
  obtain ⟨z1, h⟩ := h
  refine q_zald hX dX8_isBoiling_16 (at_of (a := 7) (t := 23) (n := 4) rfl) (inr_e z1) (inr_lt z1) (by decide) ?_
  obtain ⟨z2, h⟩ := h
  exact q_x_zretp hX hT dX8_isBoiling_17 z2 h (by omega) (by omega)
set_option maxRecDepth 100000 in
set_option maxHeartbeats 4000000 in
theorem w_X8_requireFound {l : Launch} {D : DT} {L : LT} {a0 : Int32} {I : IT} {K : Int32 → Prop} {KT : String → Prop} (hf : l.stackTraces = false)  (h : f_X8_requireFound a0 I K KT) : Con2 l D m_X8_requireFound 6 [.int a0] 1 6 I L (Px (Pi L (fun x I' => I' = I ∧ K x)) L (fun E I' => I' = I ∧ KT E)) := by
  refine Con2.of (by decide +kernel) (by simp [Value.category]) (Nat.le_of_ble_eq_true rfl) (fun X hX hT => ?_)
  have hX : OK X D cX8_requireFound "TeaHouse" 1 := hX
  have hT : RT X l D (some .int) (P2 (Px (Pi L (fun x I' => I' = I ∧ K x)) L (fun E I' => I' = I ∧ KT E))) 6 1 6 := hT
  have hR := hT.room
  change J2 X D 1 0 0 I L 0 [.int a0] []
  rw [f_X8_requireFound] at h
  refine q_iload_n hX dX8_requireFound_0 rfl ?_
  refine q_iconst hX dX8_requireFound_1 (v := (-1)) (by decide) ?_
  refine q_icmp_ne hX dX8_requireFound_2 (tgt := 16) (by decide) (fun q1 => ?_) (fun q1 => ?_)
  · replace h := ite_f q1 h
    refine q_iload_n hX dX8_requireFound_16 rfl ?_
    exact q_x_iretp hX hT dX8_requireFound_17 h (by omega) (by omega)
  · replace h := ite_t q1 h
    exact q_throwWNp hX hT hf th_398 (text := "there is no such element") (code := 41) (by decide +kernel) dX8_requireFound_5 dX8_requireFound_8 dX8_requireFound_9 dX8_requireFound_12 dX8_requireFound_15 (by decide) (by omega) h (by omega) (by omega)
set_option maxRecDepth 100000 in
set_option maxHeartbeats 4000000 in
theorem w_X8_minutesUntilBoiling {l : Launch} {D : DT} {L : LT} {a1 : Int32} {I : IT} {K : Int32 → Prop} {KT : String → Prop} (hf : l.stackTraces = false)  (h : f_X8_minutesUntilBoiling a1 I K KT) : Con2 l D m_X8_minutesUntilBoiling 7 [.ref 0, .int a1] 2 12 I L (Px (Pi L (fun x I' => I' = I ∧ K x)) L (fun E I' => I' = I ∧ KT E)) := by
  refine Con2.of (by decide +kernel) (by simp [Value.category]) (Nat.le_of_ble_eq_true rfl) (fun X hX hT => ?_)
  have hX : OK X D cX8_minutesUntilBoiling "TeaHouse" 2 := hX
  have hT : RT X l D (some .int) (P2 (Px (Pi L (fun x I' => I' = I ∧ K x)) L (fun E I' => I' = I ∧ KT E))) 7 2 12 := hT
  have hR := hT.room
  change J2 X D 2 0 0 I L 0 [.ref 0, .int a1] []
  rw [f_X8_minutesUntilBoiling] at h
  refine q_aload_n hX dX8_minutesUntilBoiling_0 rfl ?_
  refine q_iload_n hX dX8_minutesUntilBoiling_1 rfl ?_
  refine q_V_vpx hX hR hT (w_X8_requireKettle hf  h) lk_X8_123 (rc2_of (ci := 9) rfl rfl) dX8_minutesUntilBoiling_2 rfl rfl (Nat.le_of_ble_eq_true rfl) (by omega) (by omega) (by omega) (fun _ _ h => h) ?_
  intro h
  refine q_aload_n hX dX8_minutesUntilBoiling_5 rfl ?_
  refine q_getR hX gf_X8_12 rfl dX8_minutesUntilBoiling_6 (at_of (n := 0) rfl) (b := 1) rfl ?_
  refine q_getR hX gf_X8_117 rfl dX8_minutesUntilBoiling_9 (at_of (n := 0) rfl) (b := 2) rfl ?_
  refine q_iload_n hX dX8_minutesUntilBoiling_12 rfl ?_
  refine q_V_ip hX hR (w_X3_heatingTime (ket_n (a := 2) rfl) h) lk_X8_148 (rc2_of (ci := 6) rfl rfl) dX8_minutesUntilBoiling_13 rfl rfl (Nat.le_of_ble_eq_true rfl) (by omega) (by omega) (by omega) ?_
  intro x1 h
  refine q_S_ipx hX hR hT (w_X8_requireFound hf  h) lk_X8_151 dX8_minutesUntilBoiling_16 rfl rfl (Nat.le_of_ble_eq_true rfl) (by omega) (by omega) (by omega) (fun _ _ h => h) ?_
  intro x2 h
  exact q_x_iretp hX hT dX8_minutesUntilBoiling_19 h (by omega) (by omega)
set_option maxRecDepth 100000 in
set_option maxHeartbeats 4000000 in
theorem w_X8_heatingTimeOnCopy_b16 {X : XT} {D : DT} {l : Launch} {L : LT} {a1 : Int32} {K : Int32 → IT → Prop} (hX : OK X D cX8_heatingTimeOnCopy "TeaHouse" 3) (hT : RT X l D (some .int) (P2 (Pi L K)) 4 0 0)   : ∀ (n : Nat), ∀ (v2 : Int32) (I : IT), f_X8_heatingTimeOnCopy_b16 a1 K n v2 I → J2 X D 3 0 0 I L 16 [.ref 0, .int a1, .int v2] [] := by
  have hR := hT.room
  intro n
  induction n with
  | zero => intro v2 I h; exact False.elim h
  | succ n ih =>
    intro v2 I h
    rw [f_X8_heatingTimeOnCopy_b16] at h
    refine q_iload_n hX dX8_heatingTimeOnCopy_16 rfl ?_
    refine q_bipush hX dX8_heatingTimeOnCopy_17 (v := (nI 120)) (by decide) ?_
    refine q_icmp_gt hX dX8_heatingTimeOnCopy_19 (tgt := 51) (by decide) (fun q1 => ?_) (fun q1 => ?_)
    · replace h := ite_t q1 h
      refine q_iconst hX dX8_heatingTimeOnCopy_51 (v := (-1)) (by decide) ?_
      exact q_iret hX hT dX8_heatingTimeOnCopy_52 h
    · replace h := ite_f q1 h
      refine q_aload_n hX dX8_heatingTimeOnCopy_22 rfl ?_
      refine q_getR hX gf_X8_29 rfl dX8_heatingTimeOnCopy_23 (at_of (n := 0) rfl) (b := 50) rfl ?_
      refine q_iload_n hX dX8_heatingTimeOnCopy_26 rfl ?_
      refine q_V_i hX hR (w_X3_passMinute (ket_n (a := 50) rfl) h) lk_X8_374 (rc2_of (ci := 6) rfl rfl) dX8_heatingTimeOnCopy_27 rfl rfl (Nat.le_of_ble_eq_true rfl) (by omega) (by omega) (by omega) ?_
      intro x2 I3 h
      refine q_pop hX dX8_heatingTimeOnCopy_30 rfl ?_
      refine q_aload_n hX dX8_heatingTimeOnCopy_31 rfl ?_
      refine q_getR hX gf_X8_29 rfl dX8_heatingTimeOnCopy_32 (at_of (n := 0) rfl) (b := 50) rfl ?_
      refine q_getR hX gf_X8_144 rfl dX8_heatingTimeOnCopy_35 (at_of (n := 0) rfl) (b := 55) rfl ?_
      refine q_iload_n hX dX8_heatingTimeOnCopy_38 rfl ?_
      obtain ⟨z4, h⟩ := h
      refine q_zald hX dX8_heatingTimeOnCopy_39 (at_of (a := 55) (t := 23) (n := 4) rfl) (inr_e z4) (inr_lt z4) (by decide) ?_
      refine q_if_eq hX dX8_heatingTimeOnCopy_40 (tgt := 45) (by decide) (fun q5 => ?_) (fun q5 => ?_)
      · replace h := ite_t q5 h
        replace h := bnd_e h
        refine q_iinc hX dX8_heatingTimeOnCopy_45 (by decide) rfl (v := _ + nI 1) (ls' := [_, _, _]) rfl rfl ?_
        refine q_goto hX dX8_heatingTimeOnCopy_48 (tgt := 16) (by decide) ?_
        exact q_dr (ih _ _  h) ⟨Or.inl rfl, Or.inl rfl, Or.inl rfl, trivial⟩
      · replace h := ite_f q5 h
        refine q_iload_n hX dX8_heatingTimeOnCopy_43 rfl ?_
        exact q_iret hX hT dX8_heatingTimeOnCopy_44 h
set_option maxRecDepth 100000 in
set_option maxHeartbeats 4000000 in
theorem w_X8_heatingTimeOnCopy {l : Launch} {D : DT} {L : LT} {a1 : Int32} {I : IT} {K : Int32 → IT → Prop}  (h : f_X8_heatingTimeOnCopy a1 I K) : Con2 l D m_X8_heatingTimeOnCopy 4 [.ref 0, .int a1] 0 0 I L (Pi L K) := by
  refine Con2.of (by decide +kernel) (by simp [Value.category]) (Nat.le_of_ble_eq_true rfl) (fun X hX hT => ?_)
  have hX : OK X D cX8_heatingTimeOnCopy "TeaHouse" 3 := hX
  have hT : RT X l D (some .int) (P2 (Pi L K)) 4 0 0 := hT
  have hR := hT.room
  change J2 X D 3 0 0 I L 0 [.ref 0, .int a1, .retAddr 0] []
  rw [f_X8_heatingTimeOnCopy] at h
  refine q_aload_n hX dX8_heatingTimeOnCopy_0 rfl ?_
  refine q_getR hX gf_X8_29 rfl dX8_heatingTimeOnCopy_1 (at_of (n := 0) rfl) (b := 50) rfl ?_
  refine q_aload_n hX dX8_heatingTimeOnCopy_4 rfl ?_
  refine q_getR hX gf_X8_12 rfl dX8_heatingTimeOnCopy_5 (at_of (n := 0) rfl) (b := 1) rfl ?_
  refine q_getR hX gf_X8_117 rfl dX8_heatingTimeOnCopy_8 (at_of (n := 0) rfl) (b := 2) rfl ?_
  refine q_V_v hX hR (w_X3_copyFrom (ket_n (a := 50) rfl) (ket_n (a := 2) rfl) h) lk_X8_371 (rc2_of (ci := 6) rfl rfl) dX8_heatingTimeOnCopy_11 rfl rfl (Nat.le_of_ble_eq_true rfl) (by omega) (by omega) (by omega) ?_
  intro I1 h
  refine q_iconst hX dX8_heatingTimeOnCopy_14 (v := (nI 1)) (by decide) ?_
  refine q_istore_n hX dX8_heatingTimeOnCopy_15 (by decide) (ls' := [_, _, _]) rfl ?_
  exact q_dr (w_X8_heatingTimeOnCopy_b16 hX hT   _  _ _  h) ⟨Or.inl rfl, Or.inl rfl, Or.inl rfl, trivial⟩
set_option maxRecDepth 100000 in
set_option maxHeartbeats 4000000 in
theorem w_X8_minutesUntilBoilingByMinutes {l : Launch} {D : DT} {L : LT} {a1 : Int32} {I : IT} {K : Int32 → IT → Prop} {KT : String → IT → Prop} (hf : l.stackTraces = false)  (h : f_X8_minutesUntilBoilingByMinutes a1 I K KT) : Con2 l D m_X8_minutesUntilBoilingByMinutes 7 [.ref 0, .int a1] 2 12 I L (Px (Pi L K) L KT) := by
  refine Con2.of (by decide +kernel) (by simp [Value.category]) (Nat.le_of_ble_eq_true rfl) (fun X hX hT => ?_)
  have hX : OK X D cX8_minutesUntilBoilingByMinutes "TeaHouse" 2 := hX
  have hT : RT X l D (some .int) (P2 (Px (Pi L K) L KT)) 7 2 12 := hT
  have hR := hT.room
  change J2 X D 2 0 0 I L 0 [.ref 0, .int a1] []
  rw [f_X8_minutesUntilBoilingByMinutes] at h
  refine q_aload_n hX dX8_minutesUntilBoilingByMinutes_0 rfl ?_
  refine q_iload_n hX dX8_minutesUntilBoilingByMinutes_1 rfl ?_
  refine q_V_vpx hX hR hT (w_X8_requireKettle hf  h) lk_X8_123 (rc2_of (ci := 9) rfl rfl) dX8_minutesUntilBoilingByMinutes_2 rfl rfl (Nat.le_of_ble_eq_true rfl) (by omega) (by omega) (by omega) (fun _ _ h => by obtain ⟨rfl, h⟩ := h; exact h) ?_
  intro h
  refine q_aload_n hX dX8_minutesUntilBoilingByMinutes_5 rfl ?_
  refine q_iload_n hX dX8_minutesUntilBoilingByMinutes_6 rfl ?_
  refine q_V_i hX hR (w_X8_heatingTimeOnCopy  h) lk_X8_154 (rc2_of (ci := 9) rfl rfl) dX8_minutesUntilBoilingByMinutes_7 rfl rfl (Nat.le_of_ble_eq_true rfl) (by omega) (by omega) (by omega) ?_
  intro x1 I2 h
  refine q_S_ipx hX hR hT (w_X8_requireFound hf  h) lk_X8_151 dX8_minutesUntilBoilingByMinutes_10 rfl rfl (Nat.le_of_ble_eq_true rfl) (by omega) (by omega) (by omega) (fun _ _ h => by obtain ⟨rfl, h⟩ := h; exact h) ?_
  intro x3 h
  exact q_x_iret hX hT dX8_minutesUntilBoilingByMinutes_13 h (by omega) (by omega)
set_option maxRecDepth 100000 in
set_option maxHeartbeats 4000000 in
theorem w_X8_kettleByTemperature {l : Launch} {D : DT} {L : LT} {a1 : Int32} {I : IT} {K : Int32 → Prop} {KT : String → Prop} (hf : l.stackTraces = false)  (h : f_X8_kettleByTemperature a1 I K KT) : Con2 l D m_X8_kettleByTemperature 7 [.ref 0, .int a1] 1 6 I L (Px (Pi L (fun x I' => I' = I ∧ K x)) L (fun E I' => I' = I ∧ KT E)) := by
  refine Con2.of (by decide +kernel) (by simp [Value.category]) (Nat.le_of_ble_eq_true rfl) (fun X hX hT => ?_)
  have hX : OK X D cX8_kettleByTemperature "TeaHouse" 2 := hX
  have hT : RT X l D (some .int) (P2 (Px (Pi L (fun x I' => I' = I ∧ K x)) L (fun E I' => I' = I ∧ KT E))) 7 1 6 := hT
  have hR := hT.room
  change J2 X D 2 0 0 I L 0 [.ref 0, .int a1] []
  rw [f_X8_kettleByTemperature] at h
  refine q_aload_n hX dX8_kettleByTemperature_0 rfl ?_
  refine q_getR hX gf_X8_12 rfl dX8_kettleByTemperature_1 (at_of (n := 0) rfl) (b := 1) rfl ?_
  refine q_getR hX gf_X8_117 rfl dX8_kettleByTemperature_4 (at_of (n := 0) rfl) (b := 2) rfl ?_
  refine q_iload_n hX dX8_kettleByTemperature_7 rfl ?_
  refine q_V_ip hX hR (w_X3_ranked (ket_n (a := 2) rfl) h) lk_X8_157 (rc2_of (ci := 6) rfl rfl) dX8_kettleByTemperature_8 rfl rfl (Nat.le_of_ble_eq_true rfl) (by omega) (by omega) (by omega) ?_
  intro x1 h
  refine q_S_ipx hX hR hT (w_X8_requireFound hf  h) lk_X8_151 dX8_kettleByTemperature_11 rfl rfl (Nat.le_of_ble_eq_true rfl) (by omega) (by omega) (by omega) (fun _ _ h => h) ?_
  intro x2 h
  exact q_x_iretp hX hT dX8_kettleByTemperature_14 h (by omega) (by omega)
set_option maxRecDepth 100000 in
set_option maxHeartbeats 4000000 in
theorem w_X8_waitingCount {l : Launch} {D : DT} {L : LT}  {I : IT} {K : Int32 → Prop}  (h : f_X8_waitingCount  I K) : Con2 l D m_X8_waitingCount 1 [.ref 0] 0 0 I L (Pi L (fun x I' => I' = I ∧ K x)) := by
  refine Con2.of (by decide +kernel) (by simp [Value.category]) (Nat.le_of_ble_eq_true rfl) (fun X hX hT => ?_)
  have hX : OK X D cX8_waitingCount "TeaHouse" 1 := hX
  have hT : RT X l D (some .int) (P2 (Pi L (fun x I' => I' = I ∧ K x))) 1 0 0 := hT
  have hR := hT.room
  change J2 X D 1 0 0 I L 0 [.ref 0] []
  rw [f_X8_waitingCount] at h
  refine q_aload_n hX dX8_waitingCount_0 rfl ?_
  refine q_getR hX gf_X8_12 rfl dX8_waitingCount_1 (at_of (n := 0) rfl) (b := 1) rfl ?_
  refine q_getR hX gf_X8_160 rfl dX8_waitingCount_4 (at_of (n := 0) rfl) (b := 8) rfl ?_
  refine q_getI hX gf_X8_164 rfl dX8_waitingCount_7 (at_of (n := 0) rfl) ?_
  exact q_iretp hX hT dX8_waitingCount_10 h
set_option maxRecDepth 100000 in
set_option maxHeartbeats 4000000 in
theorem w_X8_orderAt {l : Launch} {D : DT} {L : LT} {a1 : Int32} {I : IT} {K : Int32 → Prop} {KT : String → Prop} (hf : l.stackTraces = false)  (h : f_X8_orderAt a1 I K KT) : Con2 l D m_X8_orderAt 7 [.ref 0, .int a1] 1 6 I L (Px (Pi L (fun x I' => I' = I ∧ K x)) L (fun E I' => I' = I ∧ KT E)) := by
  refine Con2.of (by decide +kernel) (by simp [Value.category]) (Nat.le_of_ble_eq_true rfl) (fun X hX hT => ?_)
  have hX : OK X D cX8_orderAt "TeaHouse" 2 := hX
  have hT : RT X l D (some .int) (P2 (Px (Pi L (fun x I' => I' = I ∧ K x)) L (fun E I' => I' = I ∧ KT E))) 7 1 6 := hT
  have hR := hT.room
  change J2 X D 2 0 0 I L 0 [.ref 0, .int a1] []
  rw [f_X8_orderAt] at h
  refine q_aload_n hX dX8_orderAt_0 rfl ?_
  refine q_getR hX gf_X8_12 rfl dX8_orderAt_1 (at_of (n := 0) rfl) (b := 1) rfl ?_
  refine q_getR hX gf_X8_160 rfl dX8_orderAt_4 (at_of (n := 0) rfl) (b := 8) rfl ?_
  refine q_iload_n hX dX8_orderAt_7 rfl ?_
  refine q_V_ip hX hR (w_X5_numberAt (ord_n (a := 8) rfl) h) lk_X8_167 (rc2_of (ci := 8) rfl rfl) dX8_orderAt_8 rfl rfl (Nat.le_of_ble_eq_true rfl) (by omega) (by omega) (by omega) ?_
  intro x1 h
  refine q_S_ipx hX hR hT (w_X8_requireFound hf  h) lk_X8_151 dX8_orderAt_11 rfl rfl (Nat.le_of_ble_eq_true rfl) (by omega) (by omega) (by omega) (fun _ _ h => h) ?_
  intro x2 h
  exact q_x_iretp hX hT dX8_orderAt_14 h (by omega) (by omega)
set_option maxRecDepth 100000 in
set_option maxHeartbeats 4000000 in
theorem w_X8_positionOf {l : Launch} {D : DT} {L : LT} {a1 : Int32} {I : IT} {K : Int32 → Prop} {KT : String → Prop} (hf : l.stackTraces = false)  (h : f_X8_positionOf a1 I K KT) : Con2 l D m_X8_positionOf 7 [.ref 0, .int a1] 1 6 I L (Px (Pi L (fun x I' => I' = I ∧ K x)) L (fun E I' => I' = I ∧ KT E)) := by
  refine Con2.of (by decide +kernel) (by simp [Value.category]) (Nat.le_of_ble_eq_true rfl) (fun X hX hT => ?_)
  have hX : OK X D cX8_positionOf "TeaHouse" 2 := hX
  have hT : RT X l D (some .int) (P2 (Px (Pi L (fun x I' => I' = I ∧ K x)) L (fun E I' => I' = I ∧ KT E))) 7 1 6 := hT
  have hR := hT.room
  change J2 X D 2 0 0 I L 0 [.ref 0, .int a1] []
  rw [f_X8_positionOf] at h
  refine q_aload_n hX dX8_positionOf_0 rfl ?_
  refine q_getR hX gf_X8_12 rfl dX8_positionOf_1 (at_of (n := 0) rfl) (b := 1) rfl ?_
  refine q_getR hX gf_X8_160 rfl dX8_positionOf_4 (at_of (n := 0) rfl) (b := 8) rfl ?_
  refine q_iload_n hX dX8_positionOf_7 rfl ?_
  refine q_V_ip hX hR (w_X5_find (ord_n (a := 8) rfl) h) lk_X8_170 (rc2_of (ci := 8) rfl rfl) dX8_positionOf_8 rfl rfl (Nat.le_of_ble_eq_true rfl) (by omega) (by omega) (by omega) ?_
  intro x1 h
  refine q_S_ipx hX hR hT (w_X8_requireFound hf  h) lk_X8_151 dX8_positionOf_11 rfl rfl (Nat.le_of_ble_eq_true rfl) (by omega) (by omega) (by omega) (fun _ _ h => h) ?_
  intro x2 h
  exact q_x_iretp hX hT dX8_positionOf_14 h (by omega) (by omega)
set_option maxRecDepth 100000 in
set_option maxHeartbeats 4000000 in
theorem w_X8_cupsOf {l : Launch} {D : DT} {L : LT} {a1 : Int32} {I : IT} {K : Int32 → Prop} {KT : String → Prop} (hf : l.stackTraces = false)  (h : f_X8_cupsOf a1 I K KT) : Con2 l D m_X8_cupsOf 7 [.ref 0, .int a1] 1 6 I L (Px (Pi L (fun x I' => I' = I ∧ K x)) L (fun E I' => I' = I ∧ KT E)) := by
  refine Con2.of (by decide +kernel) (by simp [Value.category]) (Nat.le_of_ble_eq_true rfl) (fun X hX hT => ?_)
  have hX : OK X D cX8_cupsOf "TeaHouse" 3 := hX
  have hT : RT X l D (some .int) (P2 (Px (Pi L (fun x I' => I' = I ∧ K x)) L (fun E I' => I' = I ∧ KT E))) 7 1 6 := hT
  have hR := hT.room
  change J2 X D 3 0 0 I L 0 [.ref 0, .int a1, .retAddr 0] []
  rw [f_X8_cupsOf] at h
  refine q_aload_n hX dX8_cupsOf_0 rfl ?_
  refine q_getR hX gf_X8_12 rfl dX8_cupsOf_1 (at_of (n := 0) rfl) (b := 1) rfl ?_
  refine q_getR hX gf_X8_160 rfl dX8_cupsOf_4 (at_of (n := 0) rfl) (b := 8) rfl ?_
  refine q_iload_n hX dX8_cupsOf_7 rfl ?_
  refine q_V_ip hX hR (w_X5_find (ord_n (a := 8) rfl) h) lk_X8_170 (rc2_of (ci := 8) rfl rfl) dX8_cupsOf_8 rfl rfl (Nat.le_of_ble_eq_true rfl) (by omega) (by omega) (by omega) ?_
  intro x1 h
  refine q_S_ipx hX hR hT (w_X8_requireFound hf  h) lk_X8_151 dX8_cupsOf_11 rfl rfl (Nat.le_of_ble_eq_true rfl) (by omega) (by omega) (by omega) (fun _ _ h => h) ?_
  intro x2 h
  refine q_istore_n hX dX8_cupsOf_14 (by decide) (ls' := [_, _, _]) rfl ?_
  refine q_aload_n hX dX8_cupsOf_15 rfl ?_
  refine q_getR hX gf_X8_12 rfl dX8_cupsOf_16 (at_of (n := 0) rfl) (b := 1) rfl ?_
  refine q_getR hX gf_X8_160 rfl dX8_cupsOf_19 (at_of (n := 0) rfl) (b := 8) rfl ?_
  refine q_getR hX gf_X8_173 rfl dX8_cupsOf_22 (at_of (n := 0) rfl) (b := 11) rfl ?_
  refine q_iload_n hX dX8_cupsOf_25 rfl ?_
  obtain ⟨z3, h⟩ := h
  refine q_iald hX dX8_cupsOf_26 (at_of (a := 11) (t := 22) (n := 10) rfl) (inr_e z3) (inr_lt z3) (by decide) ?_
  exact q_x_iretp hX hT dX8_cupsOf_27 h (by omega) (by omega)
set_option maxRecDepth 100000 in
set_option maxHeartbeats 4000000 in
theorem w_X8_priceOf {l : Launch} {D : DT} {L : LT} {a1 : Int32} {I : IT} {K : UInt32 → Prop} {KT : String → Prop} (hf : l.stackTraces = false)  (h : f_X8_priceOf a1 I K KT) : Con2 l D m_X8_priceOf 7 [.ref 0, .int a1] 1 6 I L (Px (Pf L (fun x I' => I' = I ∧ K x)) L (fun E I' => I' = I ∧ KT E)) := by
  refine Con2.of (by decide +kernel) (by simp [Value.category]) (Nat.le_of_ble_eq_true rfl) (fun X hX hT => ?_)
  have hX : OK X D cX8_priceOf "TeaHouse" 3 := hX
  have hT : RT X l D (some .float) (P2 (Px (Pf L (fun x I' => I' = I ∧ K x)) L (fun E I' => I' = I ∧ KT E))) 7 1 6 := hT
  have hR := hT.room
  change J2 X D 3 0 0 I L 0 [.ref 0, .int a1, .retAddr 0] []
  rw [f_X8_priceOf] at h
  refine q_aload_n hX dX8_priceOf_0 rfl ?_
  refine q_getR hX gf_X8_12 rfl dX8_priceOf_1 (at_of (n := 0) rfl) (b := 1) rfl ?_
  refine q_getR hX gf_X8_160 rfl dX8_priceOf_4 (at_of (n := 0) rfl) (b := 8) rfl ?_
  refine q_iload_n hX dX8_priceOf_7 rfl ?_
  refine q_V_ip hX hR (w_X5_find (ord_n (a := 8) rfl) h) lk_X8_170 (rc2_of (ci := 8) rfl rfl) dX8_priceOf_8 rfl rfl (Nat.le_of_ble_eq_true rfl) (by omega) (by omega) (by omega) ?_
  intro x1 h
  refine q_S_ipx hX hR hT (w_X8_requireFound hf  h) lk_X8_151 dX8_priceOf_11 rfl rfl (Nat.le_of_ble_eq_true rfl) (by omega) (by omega) (by omega) (fun _ _ h => h) ?_
  intro x2 h
  refine q_istore_n hX dX8_priceOf_14 (by decide) (ls' := [_, _, _]) rfl ?_
  refine q_aload_n hX dX8_priceOf_15 rfl ?_
  refine q_getR hX gf_X8_12 rfl dX8_priceOf_16 (at_of (n := 0) rfl) (b := 1) rfl ?_
  refine q_getR hX gf_X8_160 rfl dX8_priceOf_19 (at_of (n := 0) rfl) (b := 8) rfl ?_
  refine q_getR hX gf_X8_173 rfl dX8_priceOf_22 (at_of (n := 0) rfl) (b := 11) rfl ?_
  refine q_iload_n hX dX8_priceOf_25 rfl ?_
  obtain ⟨z3, h⟩ := h
  refine q_iald hX dX8_priceOf_26 (at_of (a := 11) (t := 22) (n := 10) rfl) (inr_e z3) (inr_lt z3) (by decide) ?_
  refine q_aload_n hX dX8_priceOf_27 rfl ?_
  refine q_getR hX gf_X8_12 rfl dX8_priceOf_28 (at_of (n := 0) rfl) (b := 1) rfl ?_
  refine q_getI hX gf_X8_176 rfl dX8_priceOf_31 (at_of (n := 0) rfl) ?_
  refine q_imul hX dX8_priceOf_34 ?_
  refine q_S_fp hX hR (w_X8_eighths  h) lk_X8_99 dX8_priceOf_35 rfl rfl (Nat.le_of_ble_eq_true rfl) (by omega) (by omega) (by omega) ?_
  intro x4 h
  exact q_x_fretp hX hT dX8_priceOf_38 h (by omega) (by omega)
set_option maxRecDepth 100000 in
set_option maxHeartbeats 4000000 in
theorem w_X8_kettleFor {l : Launch} {D : DT} {L : LT} {a1 : Int32} {I : IT} {K : Int32 → Prop} {KT : String → Prop} (hf : l.stackTraces = false)  (h : f_X8_kettleFor a1 I K KT) : Con2 l D m_X8_kettleFor 7 [.ref 0, .int a1] 2 12 I L (Px (Pi L (fun x I' => I' = I ∧ K x)) L (fun E I' => I' = I ∧ KT E)) := by
  refine Con2.of (by decide +kernel) (by simp [Value.category]) (Nat.le_of_ble_eq_true rfl) (fun X hX hT => ?_)
  have hX : OK X D cX8_kettleFor "TeaHouse" 3 := hX
  have hT : RT X l D (some .int) (P2 (Px (Pi L (fun x I' => I' = I ∧ K x)) L (fun E I' => I' = I ∧ KT E))) 7 2 12 := hT
  have hR := hT.room
  change J2 X D 3 0 0 I L 0 [.ref 0, .int a1, .retAddr 0] []
  rw [f_X8_kettleFor] at h
  refine q_aload_n hX dX8_kettleFor_0 rfl ?_
  refine q_getR hX gf_X8_12 rfl dX8_kettleFor_1 (at_of (n := 0) rfl) (b := 1) rfl ?_
  refine q_getR hX gf_X8_160 rfl dX8_kettleFor_4 (at_of (n := 0) rfl) (b := 8) rfl ?_
  refine q_iload_n hX dX8_kettleFor_7 rfl ?_
  refine q_V_ip hX hR (w_X5_find (ord_n (a := 8) rfl) h) lk_X8_170 (rc2_of (ci := 8) rfl rfl) dX8_kettleFor_8 rfl rfl (Nat.le_of_ble_eq_true rfl) (by omega) (by omega) (by omega) ?_
  intro x1 h
  refine q_S_ipx hX hR hT (w_X8_requireFound hf  h) lk_X8_151 dX8_kettleFor_11 rfl rfl (Nat.le_of_ble_eq_true rfl) (by omega) (by omega) (by omega) (fun _ _ h => h) ?_
  intro x2 h
  refine q_istore_n hX dX8_kettleFor_14 (by decide) (ls' := [_, _, _]) rfl ?_
  refine q_aload_n hX dX8_kettleFor_15 rfl ?_
  refine q_getR hX gf_X8_12 rfl dX8_kettleFor_16 (at_of (n := 0) rfl) (b := 1) rfl ?_
  refine q_getR hX gf_X8_117 rfl dX8_kettleFor_19 (at_of (n := 0) rfl) (b := 2) rfl ?_
  refine q_aload_n hX dX8_kettleFor_22 rfl ?_
  refine q_getR hX gf_X8_12 rfl dX8_kettleFor_23 (at_of (n := 0) rfl) (b := 1) rfl ?_
  refine q_getR hX gf_X8_160 rfl dX8_kettleFor_26 (at_of (n := 0) rfl) (b := 8) rfl ?_
  refine q_getR hX gf_X8_173 rfl dX8_kettleFor_29 (at_of (n := 0) rfl) (b := 11) rfl ?_
  refine q_iload_n hX dX8_kettleFor_32 rfl ?_
  obtain ⟨z3, h⟩ := h
  refine q_iald hX dX8_kettleFor_33 (at_of (a := 11) (t := 22) (n := 10) rfl) (inr_e z3) (inr_lt z3) (by decide) ?_
  refine q_aload_n hX dX8_kettleFor_34 rfl ?_
  refine q_getR hX gf_X8_12 rfl dX8_kettleFor_35 (at_of (n := 0) rfl) (b := 1) rfl ?_
  refine q_getR hX gf_X8_160 rfl dX8_kettleFor_38 (at_of (n := 0) rfl) (b := 8) rfl ?_
  refine q_getR hX gf_X8_179 rfl dX8_kettleFor_41 (at_of (n := 0) rfl) (b := 12) rfl ?_
  refine q_iload_n hX dX8_kettleFor_44 rfl ?_
  refine q_iald hX dX8_kettleFor_45 (at_of (a := 12) (t := 22) (n := 10) rfl) (inr_e z3) (inr_lt z3) (by decide) ?_
  refine q_V_ip hX hR (w_X3_suitable (ket_n (a := 2) rfl) h) lk_X8_182 (rc2_of (ci := 6) rfl rfl) dX8_kettleFor_46 rfl rfl (Nat.le_of_ble_eq_true rfl) (by omega) (by omega) (by omega) ?_
  intro x4 h
  refine q_S_ipx hX hR hT (w_X8_requireFound hf  h) lk_X8_151 dX8_kettleFor_49 rfl rfl (Nat.le_of_ble_eq_true rfl) (by omega) (by omega) (by omega) (fun _ _ h => h) ?_
  intro x5 h
  exact q_x_iretp hX hT dX8_kettleFor_52 h (by omega) (by omega)
set_option maxRecDepth 100000 in
set_option maxHeartbeats 4000000 in
theorem w_X8_waitOnCopy_b40 {X : XT} {D : DT} {l : Launch} {L : LT} {a1 : Int32} {a2 : Int32} {K : Int32 → IT → Prop} {X16 : Int32 → IT → Prop} (hX : OK X D cX8_waitOnCopy "TeaHouse" 5) (hT : RT X l D (some .int) (P2 (Pi L K)) 4 0 0)  (hx16 : ∀ (v3 : Int32) (I : IT), X16 v3 I → J2 X D 5 0 0 I L 16 [.ref 0, .int a1, .int a2, .int v3, .retAddr 0] []) : ∀ (n : Nat), ∀ (v3 : Int32) (v4 : Int32) (I : IT), f_X8_waitOnCopy_b40 a1 a2 X16 K n v3 v4 I → J2 X D 5 0 0 I L 40 [.ref 0, .int a1, .int a2, .int v3, .int v4] [] := by
  have hR := hT.room
  intro n
  induction n with
  | zero => intro v3 v4 I h; exact False.elim h
  | succ n ih =>
    intro v3 v4 I h
    rw [f_X8_waitOnCopy_b40] at h
    refine q_iload hX dX8_waitOnCopy_40 rfl ?_
    refine q_aload_n hX dX8_waitOnCopy_42 rfl ?_
    refine q_getR hX gf_X8_29 rfl dX8_waitOnCopy_43 (at_of (n := 0) rfl) (b := 50) rfl ?_
    refine q_getI hX gf_X8_120 rfl dX8_waitOnCopy_46 (at_of (n := 0) rfl) ?_
    refine q_icmp_ge hX dX8_waitOnCopy_49 (tgt := 68) (by decide) (fun q1 => ?_) (fun q1 => ?_)
    · replace h := ite_t q1 h
      replace h := bnd_e h
      refine q_iinc hX dX8_waitOnCopy_68 (by decide) rfl (v := _ + nI 1) (ls' := [_, _, _, _, _]) rfl rfl ?_
      refine q_goto hX dX8_waitOnCopy_71 (tgt := 16) (by decide) ?_
      exact q_dr (hx16 _ _  h) ⟨Or.inl rfl, Or.inl rfl, Or.inl rfl, Or.inl rfl, Or.inr rfl, trivial⟩
    · replace h := ite_f q1 h
      refine q_aload_n hX dX8_waitOnCopy_52 rfl ?_
      refine q_getR hX gf_X8_29 rfl dX8_waitOnCopy_53 (at_of (n := 0) rfl) (b := 50) rfl ?_
      refine q_iload hX dX8_waitOnCopy_56 rfl ?_
      refine q_V_i hX hR (w_X3_passMinute (ket_n (a := 50) rfl) h) lk_X8_374 (rc2_of (ci := 6) rfl rfl) dX8_waitOnCopy_58 rfl rfl (Nat.le_of_ble_eq_true rfl) (by omega) (by omega) (by omega) ?_
      intro x3 I4 h
      refine q_pop hX dX8_waitOnCopy_61 rfl ?_
      replace h := bnd_e h
      refine q_iinc hX dX8_waitOnCopy_62 (by decide) rfl (v := _ + nI 1) (ls' := [_, _, _, _, _]) rfl rfl ?_
      refine q_goto hX dX8_waitOnCopy_65 (tgt := 40) (by decide) ?_
      exact q_dr (ih _ _ _  h) ⟨Or.inl rfl, Or.inl rfl, Or.inl rfl, Or.inl rfl, Or.inl rfl, trivial⟩
set_option maxRecDepth 100000 in
set_option maxHeartbeats 4000000 in
theorem w_X8_waitOnCopy_b16 {X : XT} {D : DT} {l : Launch} {L : LT} {a1 : Int32} {a2 : Int32} {K : Int32 → IT → Prop} (hX : OK X D cX8_waitOnCopy "TeaHouse" 5) (hT : RT X l D (some .int) (P2 (Pi L K)) 4 0 0)   : ∀ (n : Nat), ∀ (v3 : Int32) (I : IT), f_X8_waitOnCopy_b16 a1 a2 K n v3 I → J2 X D 5 0 0 I L 16 [.ref 0, .int a1, .int a2, .int v3, .retAddr 0] [] := by
  have hR := hT.room
  intro n
  induction n with
  | zero => intro v3 I h; exact False.elim h
  | succ n ih =>
    intro v3 I h
    rw [f_X8_waitOnCopy_b16] at h
    refine q_iload_n hX dX8_waitOnCopy_16 rfl ?_
    refine q_bipush hX dX8_waitOnCopy_17 (v := (nI 120)) (by decide) ?_
    refine q_icmp_gt hX dX8_waitOnCopy_19 (tgt := 74) (by decide) (fun q1 => ?_) (fun q1 => ?_)
    · replace h := ite_t q1 h
      refine q_iconst hX dX8_waitOnCopy_74 (v := (-1)) (by decide) ?_
      exact q_iret hX hT dX8_waitOnCopy_75 h
    · replace h := ite_f q1 h
      refine q_aload_n hX dX8_waitOnCopy_22 rfl ?_
      refine q_getR hX gf_X8_29 rfl dX8_waitOnCopy_23 (at_of (n := 0) rfl) (b := 50) rfl ?_
      refine q_iload_n hX dX8_waitOnCopy_26 rfl ?_
      refine q_iload_n hX dX8_waitOnCopy_27 rfl ?_
      refine q_V_ip hX hR (w_X3_suitable (ket_n (a := 50) rfl) h) lk_X8_182 (rc2_of (ci := 6) rfl rfl) dX8_waitOnCopy_28 rfl rfl (Nat.le_of_ble_eq_true rfl) (by omega) (by omega) (by omega) ?_
      intro x2 h
      refine q_iconst hX dX8_waitOnCopy_31 (v := (-1)) (by decide) ?_
      refine q_icmp_eq hX dX8_waitOnCopy_32 (tgt := 37) (by decide) (fun q3 => ?_) (fun q3 => ?_)
      · replace h := ite_t q3 h
        refine q_iconst hX dX8_waitOnCopy_37 (v := (nI 0)) (by decide) ?_
        refine q_istore hX dX8_waitOnCopy_38 (by decide) (ls' := [_, _, _, _, _]) rfl ?_
        exact q_dr (w_X8_waitOnCopy_b40 hX hT  (fun _ _ h => ih _ _  h) _  _ _ _  h) ⟨Or.inl rfl, Or.inl rfl, Or.inl rfl, Or.inl rfl, Or.inl rfl, trivial⟩
      · replace h := ite_f q3 h
        refine q_iload_n hX dX8_waitOnCopy_35 rfl ?_
        exact q_iret hX hT dX8_waitOnCopy_36 h
set_option maxRecDepth 100000 in
set_option maxHeartbeats 4000000 in
theorem w_X8_waitOnCopy {l : Launch} {D : DT} {L : LT} {a1 : Int32} {a2 : Int32} {I : IT} {K : Int32 → IT → Prop}  (h : f_X8_waitOnCopy a1 a2 I K) : Con2 l D m_X8_waitOnCopy 4 [.ref 0, .int a1, .int a2] 0 0 I L (Pi L K) := by
  refine Con2.of (by decide +kernel) (by simp [Value.category]) (Nat.le_of_ble_eq_true rfl) (fun X hX hT => ?_)
  have hX : OK X D cX8_waitOnCopy "TeaHouse" 5 := hX
  have hT : RT X l D (some .int) (P2 (Pi L K)) 4 0 0 := hT
  have hR := hT.room
  change J2 X D 5 0 0 I L 0 [.ref 0, .int a1, .int a2, .retAddr 0, .retAddr 0] []
  rw [f_X8_waitOnCopy] at h
  refine q_aload_n hX dX8_waitOnCopy_0 rfl ?_
  refine q_getR hX gf_X8_29 rfl dX8_waitOnCopy_1 (at_of (n := 0) rfl) (b := 50) rfl ?_
  refine q_aload_n hX dX8_waitOnCopy_4 rfl ?_
  refine q_getR hX gf_X8_12 rfl dX8_waitOnCopy_5 (at_of (n := 0) rfl) (b := 1) rfl ?_
  refine q_getR hX gf_X8_117 rfl dX8_waitOnCopy_8 (at_of (n := 0) rfl) (b := 2) rfl ?_
  refine q_V_v hX hR (w_X3_copyFrom (ket_n (a := 50) rfl) (ket_n (a := 2) rfl) h) lk_X8_371 (rc2_of (ci := 6) rfl rfl) dX8_waitOnCopy_11 rfl rfl (Nat.le_of_ble_eq_true rfl) (by omega) (by omega) (by omega) ?_
  intro I1 h
  refine q_iconst hX dX8_waitOnCopy_14 (v := (nI 0)) (by decide) ?_
  refine q_istore_n hX dX8_waitOnCopy_15 (by decide) (ls' := [_, _, _, _, _]) rfl ?_
  exact q_dr (w_X8_waitOnCopy_b16 hX hT   _  _ _  h) ⟨Or.inl rfl, Or.inl rfl, Or.inl rfl, Or.inl rfl, Or.inl rfl, trivial⟩
set_option maxRecDepth 100000 in
set_option maxHeartbeats 4000000 in
theorem w_X8_minutesUntilSuitable {l : Launch} {D : DT} {L : LT} {a1 : Int32} {I : IT} {K : Int32 → IT → Prop} {KT : String → IT → Prop} (hf : l.stackTraces = false)  (h : f_X8_minutesUntilSuitable a1 I K KT) : Con2 l D m_X8_minutesUntilSuitable 7 [.ref 0, .int a1] 2 12 I L (Px (Pi L K) L KT) := by
  refine Con2.of (by decide +kernel) (by simp [Value.category]) (Nat.le_of_ble_eq_true rfl) (fun X hX hT => ?_)
  have hX : OK X D cX8_minutesUntilSuitable "TeaHouse" 3 := hX
  have hT : RT X l D (some .int) (P2 (Px (Pi L K) L KT)) 7 2 12 := hT
  have hR := hT.room
  change J2 X D 3 0 0 I L 0 [.ref 0, .int a1, .retAddr 0] []
  rw [f_X8_minutesUntilSuitable] at h
  refine q_aload_n hX dX8_minutesUntilSuitable_0 rfl ?_
  refine q_getR hX gf_X8_12 rfl dX8_minutesUntilSuitable_1 (at_of (n := 0) rfl) (b := 1) rfl ?_
  refine q_getR hX gf_X8_160 rfl dX8_minutesUntilSuitable_4 (at_of (n := 0) rfl) (b := 8) rfl ?_
  refine q_iload_n hX dX8_minutesUntilSuitable_7 rfl ?_
  refine q_V_ip hX hR (w_X5_find (ord_n (a := 8) rfl) h) lk_X8_170 (rc2_of (ci := 8) rfl rfl) dX8_minutesUntilSuitable_8 rfl rfl (Nat.le_of_ble_eq_true rfl) (by omega) (by omega) (by omega) ?_
  intro x1 h
  refine q_S_ipx hX hR hT (w_X8_requireFound hf  h) lk_X8_151 dX8_minutesUntilSuitable_11 rfl rfl (Nat.le_of_ble_eq_true rfl) (by omega) (by omega) (by omega) (fun _ _ h => by obtain ⟨rfl, h⟩ := h; exact h) ?_
  intro x2 h
  refine q_istore_n hX dX8_minutesUntilSuitable_14 (by decide) (ls' := [_, _, _]) rfl ?_
  refine q_aload_n hX dX8_minutesUntilSuitable_15 rfl ?_
  refine q_aload_n hX dX8_minutesUntilSuitable_16 rfl ?_
  refine q_getR hX gf_X8_12 rfl dX8_minutesUntilSuitable_17 (at_of (n := 0) rfl) (b := 1) rfl ?_
  refine q_getR hX gf_X8_160 rfl dX8_minutesUntilSuitable_20 (at_of (n := 0) rfl) (b := 8) rfl ?_
  refine q_getR hX gf_X8_173 rfl dX8_minutesUntilSuitable_23 (at_of (n := 0) rfl) (b := 11) rfl ?_
  refine q_iload_n hX dX8_minutesUntilSuitable_26 rfl ?_
  obtain ⟨z3, h⟩ := h
  refine q_iald hX dX8_minutesUntilSuitable_27 (at_of (a := 11) (t := 22) (n := 10) rfl) (inr_e z3) (inr_lt z3) (by decide) ?_
  refine q_aload_n hX dX8_minutesUntilSuitable_28 rfl ?_
  refine q_getR hX gf_X8_12 rfl dX8_minutesUntilSuitable_29 (at_of (n := 0) rfl) (b := 1) rfl ?_
  refine q_getR hX gf_X8_160 rfl dX8_minutesUntilSuitable_32 (at_of (n := 0) rfl) (b := 8) rfl ?_
  refine q_getR hX gf_X8_179 rfl dX8_minutesUntilSuitable_35 (at_of (n := 0) rfl) (b := 12) rfl ?_
  refine q_iload_n hX dX8_minutesUntilSuitable_38 rfl ?_
  refine q_iald hX dX8_minutesUntilSuitable_39 (at_of (a := 12) (t := 22) (n := 10) rfl) (inr_e z3) (inr_lt z3) (by decide) ?_
  refine q_V_i hX hR (w_X8_waitOnCopy  h) lk_X8_186 (rc2_of (ci := 9) rfl rfl) dX8_minutesUntilSuitable_40 rfl rfl (Nat.le_of_ble_eq_true rfl) (by omega) (by omega) (by omega) ?_
  intro x4 I5 h
  refine q_S_ipx hX hR hT (w_X8_requireFound hf  h) lk_X8_151 dX8_minutesUntilSuitable_43 rfl rfl (Nat.le_of_ble_eq_true rfl) (by omega) (by omega) (by omega) (fun _ _ h => by obtain ⟨rfl, h⟩ := h; exact h) ?_
  intro x6 h
  exact q_x_iret hX hT dX8_minutesUntilSuitable_46 h (by omega) (by omega)
set_option maxRecDepth 100000 in
set_option maxHeartbeats 4000000 in
theorem w_X8_canServe {l : Launch} {D : DT} {L : LT}  {I : IT} {K : Int32 → Prop}  (h : f_X8_canServe  I K) : Con2 l D m_X8_canServe 5 [.ref 0] 0 0 I L (Pz L (fun x I' => I' = I ∧ K x)) := by
  refine Con2.of (by decide +kernel) (by simp [Value.category]) (Nat.le_of_ble_eq_true rfl) (fun X hX hT => ?_)
  have hX : OK X D cX8_canServe "TeaHouse" 1 := hX
  have hT : RT X l D (some .boolean) (P2 (Pz L (fun x I' => I' = I ∧ K x))) 5 0 0 := hT
  have hR := hT.room
  change J2 X D 1 0 0 I L 0 [.ref 0] []
  rw [f_X8_canServe] at h
  refine q_aload_n hX dX8_canServe_0 rfl ?_
  refine q_getR hX gf_X8_12 rfl dX8_canServe_1 (at_of (n := 0) rfl) (b := 1) rfl ?_
  refine q_gets hX (q := ("TeaHouse$Verb", "SERVE", "LTeaHouse$Verb;", .ref 1000005)) (by decide +kernel) gs_X8_90 dX8_canServe_4 ?_
  refine q_iconst hX dX8_canServe_7 (v := (nI 0)) (by decide) ?_
  refine q_iconst hX dX8_canServe_8 (v := (nI 0)) (by decide) ?_
  refine q_iconst hX dX8_canServe_9 (v := (nI 0)) (by decide) ?_
  refine q_iconst hX dX8_canServe_10 (v := (nI 0)) (by decide) ?_
  refine q_V_ap hX hR (w_X1_refusal (hou_n (a := 1) rfl) ⟨by decide, by decide⟩ h) lk_X8_189 (rc2_of (ci := 4) rfl rfl) dX8_canServe_11 rfl rfl (Nat.le_of_ble_eq_true rfl) (by omega) (by omega) (by omega) ?_
  intro x1 hrx1 h
  refine q_gets hX (q := ("TeaHouse$Refusal", "NOTHING", "LTeaHouse$Refusal;", .ref 1000020)) (by decide +kernel) gs_X8_193 dX8_canServe_14 ?_
  refine q_acmp_ne hX hrx1 ⟨by decide, by decide⟩ dX8_canServe_17 (tgt := 24) (by decide) (fun q2 => ?_) (fun q2 => ?_)
  · replace h := ite_f q2 h
    refine q_iconst hX dX8_canServe_24 (v := (nI 0)) (by decide) ?_
    exact q_zretp hX hT dX8_canServe_25 (Or.inl rfl) h
  · replace h := ite_t q2 h
    refine q_iconst hX dX8_canServe_20 (v := (nI 1)) (by decide) ?_
    refine q_goto hX dX8_canServe_21 (tgt := 25) (by decide) ?_
    exact q_zretp hX hT dX8_canServe_25 (Or.inr rfl) h
set_option maxRecDepth 100000 in
set_option maxHeartbeats 4000000 in
theorem w_X8_cleanCups {l : Launch} {D : DT} {L : LT}  {I : IT} {K : Int32 → Prop}  (h : f_X8_cleanCups  I K) : Con2 l D m_X8_cleanCups 1 [.ref 0] 0 0 I L (Pi L (fun x I' => I' = I ∧ K x)) := by
  refine Con2.of (by decide +kernel) (by simp [Value.category]) (Nat.le_of_ble_eq_true rfl) (fun X hX hT => ?_)
  have hX : OK X D cX8_cleanCups "TeaHouse" 1 := hX
  have hT : RT X l D (some .int) (P2 (Pi L (fun x I' => I' = I ∧ K x))) 1 0 0 := hT
  have hR := hT.room
  change J2 X D 1 0 0 I L 0 [.ref 0] []
  rw [f_X8_cleanCups] at h
  refine q_aload_n hX dX8_cleanCups_0 rfl ?_
  refine q_getR hX gf_X8_12 rfl dX8_cleanCups_1 (at_of (n := 0) rfl) (b := 1) rfl ?_
  refine q_getI hX gf_X8_199 rfl dX8_cleanCups_4 (at_of (n := 0) rfl) ?_
  exact q_iretp hX hT dX8_cleanCups_7 h
set_option maxRecDepth 100000 in
set_option maxHeartbeats 4000000 in
theorem w_X8_steam {l : Launch} {D : DT} {L : LT}  {I : IT} {K : UInt32 → Prop}  (h : f_X8_steam  I K) : Con2 l D m_X8_steam 2 [.ref 0] 0 0 I L (Pf L (fun x I' => I' = I ∧ K x)) := by
  refine Con2.of (by decide +kernel) (by simp [Value.category]) (Nat.le_of_ble_eq_true rfl) (fun X hX hT => ?_)
  have hX : OK X D cX8_steam "TeaHouse" 1 := hX
  have hT : RT X l D (some .float) (P2 (Pf L (fun x I' => I' = I ∧ K x))) 2 0 0 := hT
  have hR := hT.room
  change J2 X D 1 0 0 I L 0 [.ref 0] []
  rw [f_X8_steam] at h
  refine q_aload_n hX dX8_steam_0 rfl ?_
  refine q_getR hX gf_X8_12 rfl dX8_steam_1 (at_of (n := 0) rfl) (b := 1) rfl ?_
  refine q_getI hX gf_X8_202 rfl dX8_steam_4 (at_of (n := 0) rfl) ?_
  refine q_S_fp hX hR (w_X8_eighths  h) lk_X8_99 dX8_steam_7 rfl rfl (Nat.le_of_ble_eq_true rfl) (by omega) (by omega) (by omega) ?_
  intro x1 h
  exact q_fretp hX hT dX8_steam_10 h
set_option maxRecDepth 100000 in
set_option maxHeartbeats 4000000 in
theorem w_X8_boiledTotal {l : Launch} {D : DT} {L : LT}  {I : IT} {K : UInt32 → Prop}  (h : f_X8_boiledTotal  I K) : Con2 l D m_X8_boiledTotal 2 [.ref 0] 0 0 I L (Pf L (fun x I' => I' = I ∧ K x)) := by
  refine Con2.of (by decide +kernel) (by simp [Value.category]) (Nat.le_of_ble_eq_true rfl) (fun X hX hT => ?_)
  have hX : OK X D cX8_boiledTotal "TeaHouse" 1 := hX
  have hT : RT X l D (some .float) (P2 (Pf L (fun x I' => I' = I ∧ K x))) 2 0 0 := hT
  have hR := hT.room
  change J2 X D 1 0 0 I L 0 [.ref 0] []
  rw [f_X8_boiledTotal] at h
  refine q_aload_n hX dX8_boiledTotal_0 rfl ?_
  refine q_getR hX gf_X8_12 rfl dX8_boiledTotal_1 (at_of (n := 0) rfl) (b := 1) rfl ?_
  refine q_getI hX gf_X8_205 rfl dX8_boiledTotal_4 (at_of (n := 0) rfl) ?_
  refine q_S_fp hX hR (w_X8_eighths  h) lk_X8_99 dX8_boiledTotal_7 rfl rfl (Nat.le_of_ble_eq_true rfl) (by omega) (by omega) (by omega) ?_
  intro x1 h
  exact q_fretp hX hT dX8_boiledTotal_10 h
set_option maxRecDepth 100000 in
set_option maxHeartbeats 4000000 in
theorem w_X8_pouredTotal {l : Launch} {D : DT} {L : LT}  {I : IT} {K : UInt32 → Prop}  (h : f_X8_pouredTotal  I K) : Con2 l D m_X8_pouredTotal 2 [.ref 0] 0 0 I L (Pf L (fun x I' => I' = I ∧ K x)) := by
  refine Con2.of (by decide +kernel) (by simp [Value.category]) (Nat.le_of_ble_eq_true rfl) (fun X hX hT => ?_)
  have hX : OK X D cX8_pouredTotal "TeaHouse" 1 := hX
  have hT : RT X l D (some .float) (P2 (Pf L (fun x I' => I' = I ∧ K x))) 2 0 0 := hT
  have hR := hT.room
  change J2 X D 1 0 0 I L 0 [.ref 0] []
  rw [f_X8_pouredTotal] at h
  refine q_aload_n hX dX8_pouredTotal_0 rfl ?_
  refine q_getR hX gf_X8_12 rfl dX8_pouredTotal_1 (at_of (n := 0) rfl) (b := 1) rfl ?_
  refine q_getI hX gf_X8_207 rfl dX8_pouredTotal_4 (at_of (n := 0) rfl) ?_
  refine q_S_fp hX hR (w_X8_eighths  h) lk_X8_99 dX8_pouredTotal_7 rfl rfl (Nat.le_of_ble_eq_true rfl) (by omega) (by omega) (by omega) ?_
  intro x1 h
  exact q_fretp hX hT dX8_pouredTotal_10 h
set_option maxRecDepth 100000 in
set_option maxHeartbeats 4000000 in
theorem w_X8_filledTotal {l : Launch} {D : DT} {L : LT}  {I : IT} {K : UInt32 → Prop}  (h : f_X8_filledTotal  I K) : Con2 l D m_X8_filledTotal 2 [.ref 0] 0 0 I L (Pf L (fun x I' => I' = I ∧ K x)) := by
  refine Con2.of (by decide +kernel) (by simp [Value.category]) (Nat.le_of_ble_eq_true rfl) (fun X hX hT => ?_)
  have hX : OK X D cX8_filledTotal "TeaHouse" 1 := hX
  have hT : RT X l D (some .float) (P2 (Pf L (fun x I' => I' = I ∧ K x))) 2 0 0 := hT
  have hR := hT.room
  change J2 X D 1 0 0 I L 0 [.ref 0] []
  rw [f_X8_filledTotal] at h
  refine q_aload_n hX dX8_filledTotal_0 rfl ?_
  refine q_getR hX gf_X8_12 rfl dX8_filledTotal_1 (at_of (n := 0) rfl) (b := 1) rfl ?_
  refine q_getI hX gf_X8_210 rfl dX8_filledTotal_4 (at_of (n := 0) rfl) ?_
  refine q_S_fp hX hR (w_X8_eighths  h) lk_X8_99 dX8_filledTotal_7 rfl rfl (Nat.le_of_ble_eq_true rfl) (by omega) (by omega) (by omega) ?_
  intro x1 h
  exact q_fretp hX hT dX8_filledTotal_10 h
set_option maxRecDepth 100000 in
set_option maxHeartbeats 4000000 in
theorem w_X8_cupPrice {l : Launch} {D : DT} {L : LT}  {I : IT} {K : UInt32 → Prop}  (h : f_X8_cupPrice  I K) : Con2 l D m_X8_cupPrice 2 [.ref 0] 0 0 I L (Pf L (fun x I' => I' = I ∧ K x)) := by
  refine Con2.of (by decide +kernel) (by simp [Value.category]) (Nat.le_of_ble_eq_true rfl) (fun X hX hT => ?_)
  have hX : OK X D cX8_cupPrice "TeaHouse" 1 := hX
  have hT : RT X l D (some .float) (P2 (Pf L (fun x I' => I' = I ∧ K x))) 2 0 0 := hT
  have hR := hT.room
  change J2 X D 1 0 0 I L 0 [.ref 0] []
  rw [f_X8_cupPrice] at h
  refine q_aload_n hX dX8_cupPrice_0 rfl ?_
  refine q_getR hX gf_X8_12 rfl dX8_cupPrice_1 (at_of (n := 0) rfl) (b := 1) rfl ?_
  refine q_getI hX gf_X8_176 rfl dX8_cupPrice_4 (at_of (n := 0) rfl) ?_
  refine q_S_fp hX hR (w_X8_eighths  h) lk_X8_99 dX8_cupPrice_7 rfl rfl (Nat.le_of_ble_eq_true rfl) (by omega) (by omega) (by omega) ?_
  intro x1 h
  exact q_fretp hX hT dX8_cupPrice_10 h
set_option maxRecDepth 100000 in
set_option maxHeartbeats 4000000 in
theorem w_X8_income {l : Launch} {D : DT} {L : LT}  {I : IT} {K : UInt32 → Prop}  (h : f_X8_income  I K) : Con2 l D m_X8_income 2 [.ref 0] 0 0 I L (Pf L (fun x I' => I' = I ∧ K x)) := by
  refine Con2.of (by decide +kernel) (by simp [Value.category]) (Nat.le_of_ble_eq_true rfl) (fun X hX hT => ?_)
  have hX : OK X D cX8_income "TeaHouse" 1 := hX
  have hT : RT X l D (some .float) (P2 (Pf L (fun x I' => I' = I ∧ K x))) 2 0 0 := hT
  have hR := hT.room
  change J2 X D 1 0 0 I L 0 [.ref 0] []
  rw [f_X8_income] at h
  refine q_aload_n hX dX8_income_0 rfl ?_
  refine q_getR hX gf_X8_12 rfl dX8_income_1 (at_of (n := 0) rfl) (b := 1) rfl ?_
  refine q_getR hX gf_X8_216 rfl dX8_income_4 (at_of (n := 0) rfl) (b := 14) rfl ?_
  refine q_getI hX gf_X8_220 rfl dX8_income_7 (at_of (n := 0) rfl) ?_
  refine q_S_fp hX hR (w_X8_eighths  h) lk_X8_99 dX8_income_10 rfl rfl (Nat.le_of_ble_eq_true rfl) (by omega) (by omega) (by omega) ?_
  intro x1 h
  exact q_fretp hX hT dX8_income_13 h
set_option maxRecDepth 100000 in
set_option maxHeartbeats 4000000 in
theorem w_X8_nightCount {l : Launch} {D : DT} {L : LT}  {I : IT} {K : Int32 → Prop}  (h : f_X8_nightCount  I K) : Con2 l D m_X8_nightCount 1 [.ref 0] 0 0 I L (Pi L (fun x I' => I' = I ∧ K x)) := by
  refine Con2.of (by decide +kernel) (by simp [Value.category]) (Nat.le_of_ble_eq_true rfl) (fun X hX hT => ?_)
  have hX : OK X D cX8_nightCount "TeaHouse" 1 := hX
  have hT : RT X l D (some .int) (P2 (Pi L (fun x I' => I' = I ∧ K x))) 1 0 0 := hT
  have hR := hT.room
  change J2 X D 1 0 0 I L 0 [.ref 0] []
  rw [f_X8_nightCount] at h
  refine q_aload_n hX dX8_nightCount_0 rfl ?_
  refine q_getR hX gf_X8_12 rfl dX8_nightCount_1 (at_of (n := 0) rfl) (b := 1) rfl ?_
  refine q_getR hX gf_X8_216 rfl dX8_nightCount_4 (at_of (n := 0) rfl) (b := 14) rfl ?_
  refine q_getI hX gf_X8_225 rfl dX8_nightCount_7 (at_of (n := 0) rfl) ?_
  exact q_iretp hX hT dX8_nightCount_10 h
set_option maxRecDepth 100000 in
set_option maxHeartbeats 4000000 in
theorem w_X8_nightIncome_b18 {X : XT} {D : DT} {l : Launch} {L : LT} {a1 : Int32} {I : IT} {K : UInt32 → Prop} {KT : String → Prop} (hf : l.stackTraces = false) (hX : OK X D cX8_nightIncome "TeaHouse" 2) (hT : RT X l D (some .float) (P2 (Px (Pf L (fun x I' => I' = I ∧ K x)) L (fun E I' => I' = I ∧ KT E))) 6 1 6)   : ∀ {c w : Nat}, c + (1) ≤ 1 → w + (6) ≤ 6 → f_X8_nightIncome_b18 a1 I K KT  → J2 X D 2 c w I L 18 [.retAddr 0, .retAddr 0] [] := by
  have hR := hT.room
  intro c w hc hw h
  rw [f_X8_nightIncome_b18] at h
  exact q_throwSp hX hT hf th_226 (text := "the ledger has no such night") (code := 42) (by decide +kernel) dX8_nightIncome_18 dX8_nightIncome_21 dX8_nightIncome_22 dX8_nightIncome_24 dX8_nightIncome_27 (by decide) (by omega) h (by omega) (by omega)
set_option maxRecDepth 100000 in
set_option maxHeartbeats 4000000 in
theorem w_X8_nightIncome {l : Launch} {D : DT} {L : LT} {a1 : Int32} {I : IT} {K : UInt32 → Prop} {KT : String → Prop} (hf : l.stackTraces = false)  (h : f_X8_nightIncome a1 I K KT) : Con2 l D m_X8_nightIncome 6 [.ref 0, .int a1] 1 6 I L (Px (Pf L (fun x I' => I' = I ∧ K x)) L (fun E I' => I' = I ∧ KT E)) := by
  refine Con2.of (by decide +kernel) (by simp [Value.category]) (Nat.le_of_ble_eq_true rfl) (fun X hX hT => ?_)
  have hX : OK X D cX8_nightIncome "TeaHouse" 2 := hX
  have hT : RT X l D (some .float) (P2 (Px (Pf L (fun x I' => I' = I ∧ K x)) L (fun E I' => I' = I ∧ KT E))) 6 1 6 := hT
  have hR := hT.room
  change J2 X D 2 0 0 I L 0 [.ref 0, .int a1] []
  rw [f_X8_nightIncome] at h
  refine q_iload_n hX dX8_nightIncome_0 rfl ?_
  refine q_if_lt hX dX8_nightIncome_1 (tgt := 18) (by decide) (fun q1 => ?_) (fun q1 => ?_)
  · replace h := ite_t q1 h
    exact q_dr (w_X8_nightIncome_b18 hf hX hT     (by omega) (by omega)   h) ⟨Or.inr rfl, Or.inr rfl, trivial⟩
  · replace h := ite_f q1 h
    refine q_iload_n hX dX8_nightIncome_4 rfl ?_
    refine q_aload_n hX dX8_nightIncome_5 rfl ?_
    refine q_getR hX gf_X8_12 rfl dX8_nightIncome_6 (at_of (n := 0) rfl) (b := 1) rfl ?_
    refine q_getR hX gf_X8_216 rfl dX8_nightIncome_9 (at_of (n := 0) rfl) (b := 14) rfl ?_
    refine q_getI hX gf_X8_225 rfl dX8_nightIncome_12 (at_of (n := 0) rfl) ?_
    refine q_icmp_lt hX dX8_nightIncome_15 (tgt := 28) (by decide) (fun q2 => ?_) (fun q2 => ?_)
    · replace h := ite_t q2 h
      refine q_aload_n hX dX8_nightIncome_28 rfl ?_
      refine q_getR hX gf_X8_12 rfl dX8_nightIncome_29 (at_of (n := 0) rfl) (b := 1) rfl ?_
      refine q_getR hX gf_X8_216 rfl dX8_nightIncome_32 (at_of (n := 0) rfl) (b := 14) rfl ?_
      refine q_getR hX gf_X8_233 rfl dX8_nightIncome_35 (at_of (n := 0) rfl) (b := 15) rfl ?_
      refine q_iload_n hX dX8_nightIncome_38 rfl ?_
      obtain ⟨z3, h⟩ := h
      refine q_iald hX dX8_nightIncome_39 (at_of (a := 15) (t := 22) (n := 14) rfl) (inr_e z3) (inr_lt z3) (by decide) ?_
      refine q_S_fp hX hR (w_X8_eighths  h) lk_X8_99 dX8_nightIncome_40 rfl rfl (Nat.le_of_ble_eq_true rfl) (by omega) (by omega) (by omega) ?_
      intro x4 h
      exact q_x_fretp hX hT dX8_nightIncome_43 h (by omega) (by omega)
    · replace h := ite_f q2 h
      exact q_dr (w_X8_nightIncome_b18 hf hX hT     (by omega) (by omega)   h) ⟨Or.inr rfl, Or.inr rfl, trivial⟩
set_option maxRecDepth 100000 in
set_option maxHeartbeats 4000000 in
theorem w_X8_nightByIncome {l : Launch} {D : DT} {L : LT} {a1 : Int32} {I : IT} {K : Int32 → Prop} {KT : String → Prop} (hf : l.stackTraces = false)  (h : f_X8_nightByIncome a1 I K KT) : Con2 l D m_X8_nightByIncome 7 [.ref 0, .int a1] 1 6 I L (Px (Pi L (fun x I' => I' = I ∧ K x)) L (fun E I' => I' = I ∧ KT E)) := by
  refine Con2.of (by decide +kernel) (by simp [Value.category]) (Nat.le_of_ble_eq_true rfl) (fun X hX hT => ?_)
  have hX : OK X D cX8_nightByIncome "TeaHouse" 2 := hX
  have hT : RT X l D (some .int) (P2 (Px (Pi L (fun x I' => I' = I ∧ K x)) L (fun E I' => I' = I ∧ KT E))) 7 1 6 := hT
  have hR := hT.room
  change J2 X D 2 0 0 I L 0 [.ref 0, .int a1] []
  rw [f_X8_nightByIncome] at h
  refine q_aload_n hX dX8_nightByIncome_0 rfl ?_
  refine q_getR hX gf_X8_12 rfl dX8_nightByIncome_1 (at_of (n := 0) rfl) (b := 1) rfl ?_
  refine q_getR hX gf_X8_216 rfl dX8_nightByIncome_4 (at_of (n := 0) rfl) (b := 14) rfl ?_
  refine q_iload_n hX dX8_nightByIncome_7 rfl ?_
  refine q_V_ip hX hR (w_X4_ranked (led_n (a := 14) rfl) h) lk_X8_236 (rc2_of (ci := 7) rfl rfl) dX8_nightByIncome_8 rfl rfl (Nat.le_of_ble_eq_true rfl) (by omega) (by omega) (by omega) ?_
  intro x1 h
  refine q_S_ipx hX hR hT (w_X8_requireFound hf  h) lk_X8_151 dX8_nightByIncome_11 rfl rfl (Nat.le_of_ble_eq_true rfl) (by omega) (by omega) (by omega) (fun _ _ h => h) ?_
  intro x2 h
  exact q_x_iretp hX hT dX8_nightByIncome_14 h (by omega) (by omega)
set_option maxRecDepth 100000 in
set_option maxHeartbeats 4000000 in
theorem w_X8_requireNights {l : Launch} {D : DT} {L : LT} {a1 : Int32} {I : IT} {K : Prop} {KT : String → Prop} (hf : l.stackTraces = false)  (h : f_X8_requireNights a1 I K KT) : Con2 l D m_X8_requireNights 6 [.ref 0, .int a1] 1 6 I L (Px (Pv L (fun I' => I' = I ∧ K)) L (fun E I' => I' = I ∧ KT E)) := by
  refine Con2.of (by decide +kernel) (by simp [Value.category]) (Nat.le_of_ble_eq_true rfl) (fun X hX hT => ?_)
  have hX : OK X D cX8_requireNights "TeaHouse" 2 := hX
  have hT : RT X l D none (P2 (Px (Pv L (fun I' => I' = I ∧ K)) L (fun E I' => I' = I ∧ KT E))) 6 1 6 := hT
  have hR := hT.room
  change J2 X D 2 0 0 I L 0 [.ref 0, .int a1] []
  rw [f_X8_requireNights] at h
  refine q_iload_n hX dX8_requireNights_0 rfl ?_
  refine q_iconst hX dX8_requireNights_1 (v := (nI 1)) (by decide) ?_
  refine q_bipush hX dX8_requireNights_2 (v := (nI 14)) (by decide) ?_
  refine q_S_zp hX hR (w_X8_isWithin  h) lk_X8_407 dX8_requireNights_4 rfl rfl (Nat.le_of_ble_eq_true rfl) (by omega) (by omega) (by omega) ?_
  intro x1 hrx1 h
  refine q_if_ne hX dX8_requireNights_7 (tgt := 21) (by decide) (fun q2 => ?_) (fun q2 => ?_)
  · replace h := ite_f q2 h
    refine q_iload_n hX dX8_requireNights_21 rfl ?_
    refine q_aload_n hX dX8_requireNights_22 rfl ?_
    refine q_getR hX gf_X8_12 rfl dX8_requireNights_23 (at_of (n := 0) rfl) (b := 1) rfl ?_
    refine q_getR hX gf_X8_216 rfl dX8_requireNights_26 (at_of (n := 0) rfl) (b := 14) rfl ?_
    refine q_getI hX gf_X8_225 rfl dX8_requireNights_29 (at_of (n := 0) rfl) ?_
    refine q_icmp_le hX dX8_requireNights_32 (tgt := 46) (by decide) (fun q3 => ?_) (fun q3 => ?_)
    · replace h := ite_t q3 h
      exact q_x_vretp hX hT dX8_requireNights_46 h (by omega) (by omega)
    · replace h := ite_f q3 h
      exact q_throwWNp hX hT hf th_398 (text := "the ledger holds fewer nights") (code := 44) (by decide +kernel) dX8_requireNights_35 dX8_requireNights_38 dX8_requireNights_39 dX8_requireNights_42 dX8_requireNights_45 (by decide) (by omega) h (by omega) (by omega)
  · replace h := ite_t q2 h
    exact q_throwWp hX hT hf th_306 (text := "the number of nights is out of range") (code := 43) (by decide +kernel) dX8_requireNights_10 dX8_requireNights_13 dX8_requireNights_14 dX8_requireNights_17 dX8_requireNights_20 (by decide) (by omega) h (by omega) (by omega)
set_option maxRecDepth 100000 in
set_option maxHeartbeats 4000000 in
theorem w_X8_greatestIncome {l : Launch} {D : DT} {L : LT} {a1 : Int32} {I : IT} {K : UInt32 → Prop} {KT : String → Prop} (hf : l.stackTraces = false)  (h : f_X8_greatestIncome a1 I K KT) : Con2 l D m_X8_greatestIncome 7 [.ref 0, .int a1] 1 6 I L (Px (Pf L (fun x I' => I' = I ∧ K x)) L (fun E I' => I' = I ∧ KT E)) := by
  refine Con2.of (by decide +kernel) (by simp [Value.category]) (Nat.le_of_ble_eq_true rfl) (fun X hX hT => ?_)
  have hX : OK X D cX8_greatestIncome "TeaHouse" 2 := hX
  have hT : RT X l D (some .float) (P2 (Px (Pf L (fun x I' => I' = I ∧ K x)) L (fun E I' => I' = I ∧ KT E))) 7 1 6 := hT
  have hR := hT.room
  change J2 X D 2 0 0 I L 0 [.ref 0, .int a1] []
  rw [f_X8_greatestIncome] at h
  refine q_aload_n hX dX8_greatestIncome_0 rfl ?_
  refine q_iload_n hX dX8_greatestIncome_1 rfl ?_
  refine q_V_vpx hX hR hT (w_X8_requireNights hf  h) lk_X8_237 (rc2_of (ci := 9) rfl rfl) dX8_greatestIncome_2 rfl rfl (Nat.le_of_ble_eq_true rfl) (by omega) (by omega) (by omega) (fun _ _ h => h) ?_
  intro h
  refine q_aload_n hX dX8_greatestIncome_5 rfl ?_
  refine q_getR hX gf_X8_12 rfl dX8_greatestIncome_6 (at_of (n := 0) rfl) (b := 1) rfl ?_
  refine q_getR hX gf_X8_216 rfl dX8_greatestIncome_9 (at_of (n := 0) rfl) (b := 14) rfl ?_
  refine q_iload_n hX dX8_greatestIncome_12 rfl ?_
  refine q_V_ip hX hR (w_X4_greatestByAdding (led_n (a := 14) rfl) h) lk_X8_240 (rc2_of (ci := 7) rfl rfl) dX8_greatestIncome_13 rfl rfl (Nat.le_of_ble_eq_true rfl) (by omega) (by omega) (by omega) ?_
  intro x1 h
  refine q_S_fp hX hR (w_X8_eighths  h) lk_X8_99 dX8_greatestIncome_16 rfl rfl (Nat.le_of_ble_eq_true rfl) (by omega) (by omega) (by omega) ?_
  intro x2 h
  exact q_x_fretp hX hT dX8_greatestIncome_19 h (by omega) (by omega)
set_option maxRecDepth 100000 in
set_option maxHeartbeats 4000000 in
theorem w_X8_greatestIncomeBySums {l : Launch} {D : DT} {L : LT} {a1 : Int32} {I : IT} {K : UInt32 → Prop} {KT : String → Prop} (hf : l.stackTraces = false)  (h : f_X8_greatestIncomeBySums a1 I K KT) : Con2 l D m_X8_greatestIncomeBySums 7 [.ref 0, .int a1] 1 6 I L (Px (Pf L (fun x I' => I' = I ∧ K x)) L (fun E I' => I' = I ∧ KT E)) := by
  refine Con2.of (by decide +kernel) (by simp [Value.category]) (Nat.le_of_ble_eq_true rfl) (fun X hX hT => ?_)
  have hX : OK X D cX8_greatestIncomeBySums "TeaHouse" 2 := hX
  have hT : RT X l D (some .float) (P2 (Px (Pf L (fun x I' => I' = I ∧ K x)) L (fun E I' => I' = I ∧ KT E))) 7 1 6 := hT
  have hR := hT.room
  change J2 X D 2 0 0 I L 0 [.ref 0, .int a1] []
  rw [f_X8_greatestIncomeBySums] at h
  refine q_aload_n hX dX8_greatestIncomeBySums_0 rfl ?_
  refine q_iload_n hX dX8_greatestIncomeBySums_1 rfl ?_
  refine q_V_vpx hX hR hT (w_X8_requireNights hf  h) lk_X8_237 (rc2_of (ci := 9) rfl rfl) dX8_greatestIncomeBySums_2 rfl rfl (Nat.le_of_ble_eq_true rfl) (by omega) (by omega) (by omega) (fun _ _ h => h) ?_
  intro h
  refine q_aload_n hX dX8_greatestIncomeBySums_5 rfl ?_
  refine q_getR hX gf_X8_12 rfl dX8_greatestIncomeBySums_6 (at_of (n := 0) rfl) (b := 1) rfl ?_
  refine q_getR hX gf_X8_216 rfl dX8_greatestIncomeBySums_9 (at_of (n := 0) rfl) (b := 14) rfl ?_
  refine q_iload_n hX dX8_greatestIncomeBySums_12 rfl ?_
  refine q_V_ip hX hR (w_X4_greatestByDifferences (led_n (a := 14) rfl) h) lk_X8_243 (rc2_of (ci := 7) rfl rfl) dX8_greatestIncomeBySums_13 rfl rfl (Nat.le_of_ble_eq_true rfl) (by omega) (by omega) (by omega) ?_
  intro x1 h
  refine q_S_fp hX hR (w_X8_eighths  h) lk_X8_99 dX8_greatestIncomeBySums_16 rfl rfl (Nat.le_of_ble_eq_true rfl) (by omega) (by omega) (by omega) ?_
  intro x2 h
  exact q_x_fretp hX hT dX8_greatestIncomeBySums_19 h (by omega) (by omega)
set_option maxRecDepth 100000 in
set_option maxHeartbeats 4000000 in
theorem w_X8_totalIncome {l : Launch} {D : DT} {L : LT}  {I : IT} {K : UInt32 → Prop}  (h : f_X8_totalIncome  I K) : Con2 l D m_X8_totalIncome 2 [.ref 0] 0 0 I L (Pf L (fun x I' => I' = I ∧ K x)) := by
  refine Con2.of (by decide +kernel) (by simp [Value.category]) (Nat.le_of_ble_eq_true rfl) (fun X hX hT => ?_)
  have hX : OK X D cX8_totalIncome "TeaHouse" 1 := hX
  have hT : RT X l D (some .float) (P2 (Pf L (fun x I' => I' = I ∧ K x))) 2 0 0 := hT
  have hR := hT.room
  change J2 X D 1 0 0 I L 0 [.ref 0] []
  rw [f_X8_totalIncome] at h
  refine q_aload_n hX dX8_totalIncome_0 rfl ?_
  refine q_getR hX gf_X8_12 rfl dX8_totalIncome_1 (at_of (n := 0) rfl) (b := 1) rfl ?_
  refine q_getR hX gf_X8_216 rfl dX8_totalIncome_4 (at_of (n := 0) rfl) (b := 14) rfl ?_
  refine q_V_ip hX hR (w_X4_totalOfNights (led_n (a := 14) rfl) h) lk_X8_246 (rc2_of (ci := 7) rfl rfl) dX8_totalIncome_7 rfl rfl (Nat.le_of_ble_eq_true rfl) (by omega) (by omega) (by omega) ?_
  intro x1 h
  refine q_S_fp hX hR (w_X8_eighths  h) lk_X8_99 dX8_totalIncome_10 rfl rfl (Nat.le_of_ble_eq_true rfl) (by omega) (by omega) (by omega) ?_
  intro x2 h
  exact q_fretp hX hT dX8_totalIncome_13 h
set_option maxRecDepth 100000 in
set_option maxHeartbeats 4000000 in
theorem w_X8_totalIncomeBySales {l : Launch} {D : DT} {L : LT}  {I : IT} {K : UInt32 → Prop}  (h : f_X8_totalIncomeBySales  I K) : Con2 l D m_X8_totalIncomeBySales 2 [.ref 0] 0 0 I L (Pf L (fun x I' => I' = I ∧ K x)) := by
  refine Con2.of (by decide +kernel) (by simp [Value.category]) (Nat.le_of_ble_eq_true rfl) (fun X hX hT => ?_)
  have hX : OK X D cX8_totalIncomeBySales "TeaHouse" 1 := hX
  have hT : RT X l D (some .float) (P2 (Pf L (fun x I' => I' = I ∧ K x))) 2 0 0 := hT
  have hR := hT.room
  change J2 X D 1 0 0 I L 0 [.ref 0] []
  rw [f_X8_totalIncomeBySales] at h
  refine q_aload_n hX dX8_totalIncomeBySales_0 rfl ?_
  refine q_getR hX gf_X8_12 rfl dX8_totalIncomeBySales_1 (at_of (n := 0) rfl) (b := 1) rfl ?_
  refine q_getR hX gf_X8_216 rfl dX8_totalIncomeBySales_4 (at_of (n := 0) rfl) (b := 14) rfl ?_
  refine q_V_ip hX hR (w_X4_totalOfSales (led_n (a := 14) rfl) h) lk_X8_250 (rc2_of (ci := 7) rfl rfl) dX8_totalIncomeBySales_7 rfl rfl (Nat.le_of_ble_eq_true rfl) (by omega) (by omega) (by omega) ?_
  intro x1 h
  refine q_S_fp hX hR (w_X8_eighths  h) lk_X8_99 dX8_totalIncomeBySales_10 rfl rfl (Nat.le_of_ble_eq_true rfl) (by omega) (by omega) (by omega) ?_
  intro x2 h
  exact q_fretp hX hT dX8_totalIncomeBySales_13 h
set_option maxRecDepth 100000 in
set_option maxHeartbeats 4000000 in
theorem w_X8_whistlesHeard {l : Launch} {D : DT} {L : LT}  {I : IT} {K : Int32 → Prop}  (h : f_X8_whistlesHeard  I K) : Con2 l D m_X8_whistlesHeard 1 [.ref 0] 0 0 I L (Pi L (fun x I' => I' = I ∧ K x)) := by
  refine Con2.of (by decide +kernel) (by simp [Value.category]) (Nat.le_of_ble_eq_true rfl) (fun X hX hT => ?_)
  have hX : OK X D cX8_whistlesHeard "TeaHouse" 1 := hX
  have hT : RT X l D (some .int) (P2 (Pi L (fun x I' => I' = I ∧ K x))) 1 0 0 := hT
  have hR := hT.room
  change J2 X D 1 0 0 I L 0 [.ref 0] []
  rw [f_X8_whistlesHeard] at h
  refine q_aload_n hX dX8_whistlesHeard_0 rfl ?_
  refine q_getR hX gf_X8_12 rfl dX8_whistlesHeard_1 (at_of (n := 0) rfl) (b := 1) rfl ?_
  refine q_getI hX gf_X8_256 rfl dX8_whistlesHeard_4 (at_of (n := 0) rfl) ?_
  exact q_iretp hX hT dX8_whistlesHeard_7 h
set_option maxRecDepth 100000 in
set_option maxHeartbeats 4000000 in
theorem w_X8_whistlesLost {l : Launch} {D : DT} {L : LT}  {I : IT} {K : Int32 → Prop}  (h : f_X8_whistlesLost  I K) : Con2 l D m_X8_whistlesLost 1 [.ref 0] 0 0 I L (Pi L (fun x I' => I' = I ∧ K x)) := by
  refine Con2.of (by decide +kernel) (by simp [Value.category]) (Nat.le_of_ble_eq_true rfl) (fun X hX hT => ?_)
  have hX : OK X D cX8_whistlesLost "TeaHouse" 1 := hX
  have hT : RT X l D (some .int) (P2 (Pi L (fun x I' => I' = I ∧ K x))) 1 0 0 := hT
  have hR := hT.room
  change J2 X D 1 0 0 I L 0 [.ref 0] []
  rw [f_X8_whistlesLost] at h
  refine q_aload_n hX dX8_whistlesLost_0 rfl ?_
  refine q_getR hX gf_X8_12 rfl dX8_whistlesLost_1 (at_of (n := 0) rfl) (b := 1) rfl ?_
  refine q_getI hX gf_X8_259 rfl dX8_whistlesLost_4 (at_of (n := 0) rfl) ?_
  exact q_iretp hX hT dX8_whistlesLost_7 h
