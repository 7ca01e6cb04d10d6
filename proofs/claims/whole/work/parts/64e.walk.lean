set_option maxRecDepth 100000 in
set_option maxHeartbeats 4000000 in
theorem w_X9_minutesUntilSuitable_b62 {X : XT} {D : DT} {l : Launch} {L : LT} {a1 : Int32} {K : Int32 → IT → Prop} {X48 : Int32 → Int32 → Int32 → IT → Prop} (hX : OK X D cX9_minutesUntilSuitable "TeaHouseModel" 7) (hT : RT X l D (some .int) (P2 (Pi L K)) 3 0 0)  (hx48 : ∀ (v2 : Int32) (v3 : Int32) (v4 : Int32) (I : IT), X48 v2 v3 v4 I → J2 X D 7 0 0 I L 48 [.ref 190, .retAddr 0, .int v2, .int v3, .int v4, .retAddr 0, .retAddr 0] []) : ∀ (n : Nat), ∀ (v2 : Int32) (v4 : Int32) (v5 : Int32) (I : IT), f_X9_minutesUntilSuitable_b62 a1 X48 K n v2 v4 v5 I → J2 X D 7 0 0 I L 62 [.ref 190, .retAddr 0, .int v2, .retAddr 0, .int v4, .int v5, .retAddr 0] [] := by
  have hR := hT.room
  intro n
  induction n with
  | zero => intro v2 v4 v5 I h; exact False.elim h
  | succ n ih =>
    intro v2 v4 v5 I h
    rw [f_X9_minutesUntilSuitable_b62] at h
    refine q_iload hX dX9_minutesUntilSuitable_62 rfl ?_
    refine q_aload_n hX dX9_minutesUntilSuitable_64 rfl ?_
    refine q_getR hX gf_X9_9 rfl dX9_minutesUntilSuitable_65 (at_of (n := 0) rfl) (b := 191) rfl ?_
    refine q_iconst hX dX9_minutesUntilSuitable_68 (v := (nI 1)) (by decide) ?_
    refine q_iald hX dX9_minutesUntilSuitable_69 (at_of (a := 191) (t := 22) (n := 1236) rfl) (j := 1) rfl (by decide) (by decide) ?_
    refine q_icmp_ge hX dX9_minutesUntilSuitable_70 (tgt := 87) (by decide) (fun q1 => ?_) (fun q1 => ?_)
    · replace h := ite_t q1 h
      refine q_aload_n hX dX9_minutesUntilSuitable_87 rfl ?_
      refine q_iload_n hX dX9_minutesUntilSuitable_88 rfl ?_
      refine q_V_ip hX hR (w_X9_pourer  h) lk_X9_108 (rc2_of (ci := 10) rfl rfl) dX9_minutesUntilSuitable_89 rfl rfl (Nat.le_of_ble_eq_true rfl) (by omega) (by omega) (by omega) ?_
      intro x2 h
      refine q_if_lt hX dX9_minutesUntilSuitable_92 (tgt := 100) (by decide) (fun q3 => ?_) (fun q3 => ?_)
      · replace h := ite_t q3 h
        refine q_iconst hX dX9_minutesUntilSuitable_100 (v := (-1)) (by decide) ?_
        refine q_istore_n hX dX9_minutesUntilSuitable_101 (by decide) (ls' := [_, _, _, _, _, _, _]) rfl ?_
        replace h := bnd_e h
        refine q_iinc hX dX9_minutesUntilSuitable_102 (by decide) rfl (v := _ + nI 1) (ls' := [_, _, _, _, _, _, _]) rfl rfl ?_
        refine q_goto hX dX9_minutesUntilSuitable_105 (tgt := 48) (by decide) ?_
        exact q_dr (hx48 _ _ _ _  h) ⟨Or.inl rfl, Or.inl rfl, Or.inl rfl, Or.inl rfl, Or.inl rfl, Or.inr rfl, Or.inl rfl, trivial⟩
      · replace h := ite_f q3 h
        refine q_iload hX dX9_minutesUntilSuitable_95 rfl ?_
        refine q_goto hX dX9_minutesUntilSuitable_97 (tgt := 101) (by decide) ?_
        refine q_istore_n hX dX9_minutesUntilSuitable_101 (by decide) (ls' := [_, _, _, _, _, _, _]) rfl ?_
        replace h := bnd_e h
        refine q_iinc hX dX9_minutesUntilSuitable_102 (by decide) rfl (v := _ + nI 1) (ls' := [_, _, _, _, _, _, _]) rfl rfl ?_
        refine q_goto hX dX9_minutesUntilSuitable_105 (tgt := 48) (by decide) ?_
        exact q_dr (hx48 _ _ _ _  h) ⟨Or.inl rfl, Or.inl rfl, Or.inl rfl, Or.inl rfl, Or.inl rfl, Or.inr rfl, Or.inl rfl, trivial⟩
    · replace h := ite_f q1 h
      refine q_aload_n hX dX9_minutesUntilSuitable_73 rfl ?_
      refine q_iload hX dX9_minutesUntilSuitable_74 rfl ?_
      refine q_V_i hX hR (w_X9_heats  h) lk_X9_137 (rc2_of (ci := 10) rfl rfl) dX9_minutesUntilSuitable_76 rfl rfl (Nat.le_of_ble_eq_true rfl) (by omega) (by omega) (by omega) ?_
      intro x6 I7 h
      refine q_istore hX dX9_minutesUntilSuitable_79 (by decide) (ls' := [_, _, _, _, _, _, _]) rfl ?_
      replace h := bnd_e h
      refine q_iinc hX dX9_minutesUntilSuitable_81 (by decide) rfl (v := _ + nI 1) (ls' := [_, _, _, _, _, _, _]) rfl rfl ?_
      refine q_goto hX dX9_minutesUntilSuitable_84 (tgt := 62) (by decide) ?_
      exact q_dr (ih _ _ _ _  h) ⟨Or.inl rfl, Or.inl rfl, Or.inl rfl, Or.inl rfl, Or.inl rfl, Or.inl rfl, Or.inr rfl, trivial⟩
set_option maxRecDepth 100000 in
set_option maxHeartbeats 4000000 in
theorem w_X9_minutesUntilSuitable_b48 {X : XT} {D : DT} {l : Launch} {L : LT} {a1 : Int32} {K : Int32 → IT → Prop} {X108 : Int32 → IT → Prop} (hX : OK X D cX9_minutesUntilSuitable "TeaHouseModel" 7) (hT : RT X l D (some .int) (P2 (Pi L K)) 3 0 0)  (hx108 : ∀ (v3 : Int32) (I : IT), X108 v3 I → J2 X D 7 0 0 I L 108 [.ref 190, .retAddr 0, .retAddr 0, .int v3, .retAddr 0, .retAddr 0, .retAddr 0] []) : ∀ (n : Nat), ∀ (v2 : Int32) (v3 : Int32) (v4 : Int32) (I : IT), f_X9_minutesUntilSuitable_b48 a1 X108 K n v2 v3 v4 I → J2 X D 7 0 0 I L 48 [.ref 190, .retAddr 0, .int v2, .int v3, .int v4, .retAddr 0, .retAddr 0] [] := by
  have hR := hT.room
  intro n
  induction n with
  | zero => intro v2 v3 v4 I h; exact False.elim h
  | succ n ih =>
    intro v2 v3 v4 I h
    rw [f_X9_minutesUntilSuitable_b48] at h
    refine q_iload_n hX dX9_minutesUntilSuitable_48 rfl ?_
    refine q_if_ge hX dX9_minutesUntilSuitable_49 (tgt := 108) (by decide) (fun q1 => ?_) (fun q1 => ?_)
    · replace h := ite_t q1 h
      exact q_dr (hx108 _ _  h) ⟨Or.inl rfl, Or.inl rfl, Or.inr rfl, Or.inl rfl, Or.inr rfl, Or.inl rfl, Or.inl rfl, trivial⟩
    · replace h := ite_f q1 h
      refine q_iload hX dX9_minutesUntilSuitable_52 rfl ?_
      refine q_bipush hX dX9_minutesUntilSuitable_54 (v := (nI 120)) (by decide) ?_
      refine q_icmp_gt hX dX9_minutesUntilSuitable_56 (tgt := 108) (by decide) (fun q2 => ?_) (fun q2 => ?_)
      · replace h := ite_t q2 h
        exact q_dr (hx108 _ _  h) ⟨Or.inl rfl, Or.inl rfl, Or.inr rfl, Or.inl rfl, Or.inr rfl, Or.inl rfl, Or.inl rfl, trivial⟩
      · replace h := ite_f q2 h
        refine q_iconst hX dX9_minutesUntilSuitable_59 (v := (nI 0)) (by decide) ?_
        refine q_istore hX dX9_minutesUntilSuitable_60 (by decide) (ls' := [_, _, _, _, _, _, _]) rfl ?_
        exact q_dr (w_X9_minutesUntilSuitable_b62 hX hT  (fun _ _ _ _ h => ih _ _ _ _  h) _  _ _ _ _  h) ⟨Or.inl rfl, Or.inl rfl, Or.inl rfl, Or.inr rfl, Or.inl rfl, Or.inl rfl, Or.inl rfl, trivial⟩
set_option maxRecDepth 100000 in
set_option maxHeartbeats 4000000 in
theorem w_X9_minutesUntilSuitable_b125 {X : XT} {D : DT} {l : Launch} {L : LT} {a1 : Int32} {K : Int32 → IT → Prop} (hX : OK X D cX9_minutesUntilSuitable "TeaHouseModel" 7) (hT : RT X l D (some .int) (P2 (Pi L K)) 3 0 0)   : ∀ (v3 : Int32) (s1 : Int32) (I : IT), isZ s1 → isC s1 → f_X9_minutesUntilSuitable_b125 a1 K v3 s1 I → J2 X D 7 0 0 I L 125 [.retAddr 0, .retAddr 0, .retAddr 0, .int v3, .retAddr 0, .retAddr 0, .retAddr 0] [.int s1, .ref 190] := by
  have hR := hT.room
  intro v3 s1 I hzs1 hcs1 h
  rw [f_X9_minutesUntilSuitable_b125] at h
  refine q_V_z hX hR (w_X9_isFine hzs1 h) lk_X9_149 (rc2_of (ci := 10) rfl rfl) dX9_minutesUntilSuitable_125 rfl rfl (Nat.le_of_ble_eq_true rfl) (by omega) (by omega) (by omega) ?_
  intro x1 I2 hrx1 h
  refine q_if_eq hX dX9_minutesUntilSuitable_128 (tgt := 135) (by decide) (fun q3 => ?_) (fun q3 => ?_)
  · replace h := ite_t q3 h
    refine q_iconst hX dX9_minutesUntilSuitable_135 (v := (nI 0)) (by decide) ?_
    exact q_iret hX hT dX9_minutesUntilSuitable_136 h
  · replace h := ite_f q3 h
    refine q_iload_n hX dX9_minutesUntilSuitable_131 rfl ?_
    refine q_goto hX dX9_minutesUntilSuitable_132 (tgt := 136) (by decide) ?_
    exact q_iret hX hT dX9_minutesUntilSuitable_136 h
set_option maxRecDepth 100000 in
set_option maxHeartbeats 4000000 in
theorem w_X9_minutesUntilSuitable_b108 {X : XT} {D : DT} {l : Launch} {L : LT} {a1 : Int32} {K : Int32 → IT → Prop} (hX : OK X D cX9_minutesUntilSuitable "TeaHouseModel" 7) (hT : RT X l D (some .int) (P2 (Pi L K)) 3 0 0)   : ∀ (v3 : Int32) (I : IT), f_X9_minutesUntilSuitable_b108 a1 K v3 I → J2 X D 7 0 0 I L 108 [.ref 190, .retAddr 0, .retAddr 0, .int v3, .retAddr 0, .retAddr 0, .retAddr 0] [] := by
  have hR := hT.room
  intro v3 I h
  rw [f_X9_minutesUntilSuitable_b108] at h
  refine q_aload_n hX dX9_minutesUntilSuitable_108 rfl ?_
  refine q_bipush hX dX9_minutesUntilSuitable_109 (v := (nI 11)) (by decide) ?_
  refine q_iconst hX dX9_minutesUntilSuitable_111 (v := (nI 0)) (by decide) ?_
  refine q_V_v hX hR (w_X9_copies  h) lk_X9_33 (rc2_of (ci := 10) rfl rfl) dX9_minutesUntilSuitable_112 rfl rfl (Nat.le_of_ble_eq_true rfl) (by omega) (by omega) (by omega) ?_
  intro I1 h
  refine q_aload_n hX dX9_minutesUntilSuitable_115 rfl ?_
  refine q_iload_n hX dX9_minutesUntilSuitable_116 rfl ?_
  refine q_if_lt hX dX9_minutesUntilSuitable_117 (tgt := 124) (by decide) (fun q2 => ?_) (fun q2 => ?_)
  · replace h := ite_t q2 h
    refine q_iconst hX dX9_minutesUntilSuitable_124 (v := (nI 0)) (by decide) ?_
    exact q_dr (w_X9_minutesUntilSuitable_b125 hX hT    _ _ _ (Or.inl rfl) (isC_n (by decide)) h) ⟨Or.inr rfl, Or.inl rfl, Or.inl rfl, Or.inl rfl, Or.inl rfl, Or.inl rfl, Or.inl rfl, trivial⟩
  · replace h := ite_f q2 h
    refine q_iconst hX dX9_minutesUntilSuitable_120 (v := (nI 1)) (by decide) ?_
    refine q_goto hX dX9_minutesUntilSuitable_121 (tgt := 125) (by decide) ?_
    exact q_dr (w_X9_minutesUntilSuitable_b125 hX hT    _ _ _ (Or.inr rfl) (isC_n (by decide)) h) ⟨Or.inr rfl, Or.inl rfl, Or.inl rfl, Or.inl rfl, Or.inl rfl, Or.inl rfl, Or.inl rfl, trivial⟩
set_option maxRecDepth 100000 in
set_option maxHeartbeats 4000000 in
theorem w_X9_minutesUntilSuitable_b37 {X : XT} {D : DT} {l : Launch} {L : LT} {a1 : Int32} {K : Int32 → IT → Prop} (hX : OK X D cX9_minutesUntilSuitable "TeaHouseModel" 7) (hT : RT X l D (some .int) (P2 (Pi L K)) 3 0 0)   : ∀ (v2 : Int32) (s0 : Int32) (I : IT), f_X9_minutesUntilSuitable_b37 a1 K v2 s0 I → J2 X D 7 0 0 I L 37 [.ref 190, .retAddr 0, .int v2, .retAddr 0, .retAddr 0, .retAddr 0, .retAddr 0] [.int s0] := by
  have hR := hT.room
  intro v2 s0 I h
  rw [f_X9_minutesUntilSuitable_b37] at h
  refine q_istore_n hX dX9_minutesUntilSuitable_37 (by decide) (ls' := [_, _, _, _, _, _, _]) rfl ?_
  refine q_aload_n hX dX9_minutesUntilSuitable_38 rfl ?_
  refine q_iconst hX dX9_minutesUntilSuitable_39 (v := (nI 0)) (by decide) ?_
  refine q_bipush hX dX9_minutesUntilSuitable_40 (v := (nI 11)) (by decide) ?_
  refine q_V_v hX hR (w_X9_copies  h) lk_X9_33 (rc2_of (ci := 10) rfl rfl) dX9_minutesUntilSuitable_42 rfl rfl (Nat.le_of_ble_eq_true rfl) (by omega) (by omega) (by omega) ?_
  intro I1 h
  refine q_iconst hX dX9_minutesUntilSuitable_45 (v := (nI 1)) (by decide) ?_
  refine q_istore hX dX9_minutesUntilSuitable_46 (by decide) (ls' := [_, _, _, _, _, _, _]) rfl ?_
  exact q_dr (w_X9_minutesUntilSuitable_b48 hX hT  (fun _ _ h => w_X9_minutesUntilSuitable_b108 hX hT    _ _  h) _  _ _ _ _  h) ⟨Or.inl rfl, Or.inl rfl, Or.inl rfl, Or.inl rfl, Or.inl rfl, Or.inl rfl, Or.inl rfl, trivial⟩
set_option maxRecDepth 100000 in
set_option maxHeartbeats 4000000 in
theorem w_X9_minutesUntilSuitable_b16 {X : XT} {D : DT} {l : Launch} {L : LT} {a1 : Int32} {K : Int32 → IT → Prop} (hX : OK X D cX9_minutesUntilSuitable "TeaHouseModel" 7) (hT : RT X l D (some .int) (P2 (Pi L K)) 3 0 0)   : ∀ (v2 : Int32) (s1 : Int32) (I : IT), isZ s1 → isC s1 → f_X9_minutesUntilSuitable_b16 a1 K v2 s1 I → J2 X D 7 0 0 I L 16 [.ref 190, .retAddr 0, .int v2, .retAddr 0, .retAddr 0, .retAddr 0, .retAddr 0] [.int s1, .ref 190] := by
  have hR := hT.room
  intro v2 s1 I hzs1 hcs1 h
  rw [f_X9_minutesUntilSuitable_b16] at h
  refine q_V_z hX hR (w_X9_isFine hzs1 h) lk_X9_149 (rc2_of (ci := 10) rfl rfl) dX9_minutesUntilSuitable_16 rfl rfl (Nat.le_of_ble_eq_true rfl) (by omega) (by omega) (by omega) ?_
  intro x1 I2 hrx1 h
  refine q_if_ne hX dX9_minutesUntilSuitable_19 (tgt := 24) (by decide) (fun q3 => ?_) (fun q3 => ?_)
  · replace h := ite_f q3 h
    refine q_aload_n hX dX9_minutesUntilSuitable_24 rfl ?_
    refine q_iload_n hX dX9_minutesUntilSuitable_25 rfl ?_
    refine q_V_ip hX hR (w_X9_pourer  h) lk_X9_108 (rc2_of (ci := 10) rfl rfl) dX9_minutesUntilSuitable_26 rfl rfl (Nat.le_of_ble_eq_true rfl) (by omega) (by omega) (by omega) ?_
    intro x4 h
    refine q_if_lt hX dX9_minutesUntilSuitable_29 (tgt := 36) (by decide) (fun q5 => ?_) (fun q5 => ?_)
    · replace h := ite_t q5 h
      refine q_iconst hX dX9_minutesUntilSuitable_36 (v := (-1)) (by decide) ?_
      exact q_dr (w_X9_minutesUntilSuitable_b37 hX hT    _ _ _  h) ⟨Or.inl rfl, Or.inl rfl, Or.inl rfl, Or.inl rfl, Or.inl rfl, Or.inl rfl, Or.inl rfl, trivial⟩
    · replace h := ite_f q5 h
      refine q_iconst hX dX9_minutesUntilSuitable_32 (v := (nI 0)) (by decide) ?_
      refine q_goto hX dX9_minutesUntilSuitable_33 (tgt := 37) (by decide) ?_
      exact q_dr (w_X9_minutesUntilSuitable_b37 hX hT    _ _ _  h) ⟨Or.inl rfl, Or.inl rfl, Or.inl rfl, Or.inl rfl, Or.inl rfl, Or.inl rfl, Or.inl rfl, trivial⟩
  · replace h := ite_t q3 h
    refine q_iconst hX dX9_minutesUntilSuitable_22 (v := (nI 0)) (by decide) ?_
    exact q_iret hX hT dX9_minutesUntilSuitable_23 h
set_option maxRecDepth 100000 in
set_option maxHeartbeats 4000000 in
theorem w_X9_minutesUntilSuitable {l : Launch} {D : DT} {L : LT} {a1 : Int32} {I : IT} {K : Int32 → IT → Prop}  (h : f_X9_minutesUntilSuitable a1 I K) : Con2 l D m_X9_minutesUntilSuitable 3 [.ref 190, .int a1] 0 0 I L (Pi L K) := by
  refine Con2.of (by decide +kernel) (by simp [Value.category]) (Nat.le_of_ble_eq_true rfl) (fun X hX hT => ?_)
  have hX : OK X D cX9_minutesUntilSuitable "TeaHouseModel" 7 := hX
  have hT : RT X l D (some .int) (P2 (Pi L K)) 3 0 0 := hT
  have hR := hT.room
  change J2 X D 7 0 0 I L 0 [.ref 190, .int a1, .retAddr 0, .retAddr 0, .retAddr 0, .retAddr 0, .retAddr 0] []
  rw [f_X9_minutesUntilSuitable] at h
  refine q_aload_n hX dX9_minutesUntilSuitable_0 rfl ?_
  refine q_iload_n hX dX9_minutesUntilSuitable_1 rfl ?_
  refine q_V_ip hX hR (w_X9_find  h) lk_X9_95 (rc2_of (ci := 10) rfl rfl) dX9_minutesUntilSuitable_2 rfl rfl (Nat.le_of_ble_eq_true rfl) (by omega) (by omega) (by omega) ?_
  intro x1 h
  refine q_istore_n hX dX9_minutesUntilSuitable_5 (by decide) (ls' := [_, _, _, _, _, _, _]) rfl ?_
  refine q_aload_n hX dX9_minutesUntilSuitable_6 rfl ?_
  refine q_iload_n hX dX9_minutesUntilSuitable_7 rfl ?_
  refine q_if_lt hX dX9_minutesUntilSuitable_8 (tgt := 15) (by decide) (fun q2 => ?_) (fun q2 => ?_)
  · replace h := ite_t q2 h
    refine q_iconst hX dX9_minutesUntilSuitable_15 (v := (nI 0)) (by decide) ?_
    exact q_dr (w_X9_minutesUntilSuitable_b16 hX hT    _ _ _ (Or.inl rfl) (isC_n (by decide)) h) ⟨Or.inl rfl, Or.inr rfl, Or.inl rfl, Or.inl rfl, Or.inl rfl, Or.inl rfl, Or.inl rfl, trivial⟩
  · replace h := ite_f q2 h
    refine q_iconst hX dX9_minutesUntilSuitable_11 (v := (nI 1)) (by decide) ?_
    refine q_goto hX dX9_minutesUntilSuitable_12 (tgt := 16) (by decide) ?_
    exact q_dr (w_X9_minutesUntilSuitable_b16 hX hT    _ _ _ (Or.inr rfl) (isC_n (by decide)) h) ⟨Or.inl rfl, Or.inr rfl, Or.inl rfl, Or.inl rfl, Or.inl rfl, Or.inl rfl, Or.inl rfl, trivial⟩
set_option maxRecDepth 100000 in
set_option maxHeartbeats 4000000 in
theorem w_X9_canServe {l : Launch} {D : DT} {L : LT}  {I : IT} {K : Int32 → IT → Prop}  (h : f_X9_canServe  I K) : Con2 l D m_X9_canServe 6 [.ref 190] 0 0 I L (Pz L K) := by
  refine Con2.of (by decide +kernel) (by simp [Value.category]) (Nat.le_of_ble_eq_true rfl) (fun X hX hT => ?_)
  have hX : OK X D cX9_canServe "TeaHouseModel" 1 := hX
  have hT : RT X l D (some .boolean) (P2 (Pz L K)) 6 0 0 := hT
  have hR := hT.room
  change J2 X D 1 0 0 I L 0 [.ref 190] []
  rw [f_X9_canServe] at h
  refine q_aload_n hX dX9_canServe_0 rfl ?_
  refine q_iconst hX dX9_canServe_1 (v := (nI 0)) (by decide) ?_
  replace h := wr_e h
  refine q_putI hX pf_X9_30 rfl dX9_canServe_2 (at_of (n := 0) rfl) rfl rfl ?_
  generalize up2 _ _ _ _ = I1 at h ⊢
  refine q_aload_n hX dX9_canServe_5 rfl ?_
  refine q_V_zp hX hR (w_X9_isServable  h) lk_X9_111 (rc2_of (ci := 10) rfl rfl) dX9_canServe_6 rfl rfl (Nat.le_of_ble_eq_true rfl) (by omega) (by omega) (by omega) ?_
  intro x2 hrx2 h
  exact q_zret hX hT dX9_canServe_9 hrx2 h
set_option maxRecDepth 100000 in
set_option maxHeartbeats 4000000 in
theorem w_X9_cleanCups {l : Launch} {D : DT} {L : LT}  {I : IT} {K : Int32 → IT → Prop}  (h : f_X9_cleanCups  I K) : Con2 l D m_X9_cleanCups 2 [.ref 190] 0 0 I L (Pi L K) := by
  refine Con2.of (by decide +kernel) (by simp [Value.category]) (Nat.le_of_ble_eq_true rfl) (fun X hX hT => ?_)
  have hX : OK X D cX9_cleanCups "TeaHouseModel" 1 := hX
  have hT : RT X l D (some .int) (P2 (Pi L K)) 2 0 0 := hT
  have hR := hT.room
  change J2 X D 1 0 0 I L 0 [.ref 190] []
  rw [f_X9_cleanCups] at h
  refine q_bipush hX dX9_cleanCups_0 (v := (nI 20)) (by decide) ?_
  refine q_aload_n hX dX9_cleanCups_2 rfl ?_
  refine q_iconst hX dX9_cleanCups_3 (v := (nI 4)) (by decide) ?_
  refine q_V_i hX hR (w_X9_told  h) lk_X9_146 (rc2_of (ci := 10) rfl rfl) dX9_cleanCups_4 rfl rfl (Nat.le_of_ble_eq_true rfl) (by omega) (by omega) (by omega) ?_
  intro x1 I2 h
  refine q_isub hX dX9_cleanCups_7 ?_
  exact q_iret hX hT dX9_cleanCups_8 h
set_option maxRecDepth 100000 in
set_option maxHeartbeats 4000000 in
theorem w_X9_steam {l : Launch} {D : DT} {L : LT}  {I : IT} {K : UInt32 → IT → Prop}  (h : f_X9_steam  I K) : Con2 l D m_X9_steam 2 [.ref 190] 0 0 I L (Pf L K) := by
  refine Con2.of (by decide +kernel) (by simp [Value.category]) (Nat.le_of_ble_eq_true rfl) (fun X hX hT => ?_)
  have hX : OK X D cX9_steam "TeaHouseModel" 1 := hX
  have hT : RT X l D (some .float) (P2 (Pf L K)) 2 0 0 := hT
  have hR := hT.room
  change J2 X D 1 0 0 I L 0 [.ref 190] []
  rw [f_X9_steam] at h
  refine q_aload_n hX dX9_steam_0 rfl ?_
  refine q_iconst hX dX9_steam_1 (v := (nI 5)) (by decide) ?_
  refine q_V_i hX hR (w_X9_told  h) lk_X9_146 (rc2_of (ci := 10) rfl rfl) dX9_steam_2 rfl rfl (Nat.le_of_ble_eq_true rfl) (by omega) (by omega) (by omega) ?_
  intro x1 I2 h
  refine q_S_fp hX hR (w_X9_eighths  h) lk_X9_128 dX9_steam_5 rfl rfl (Nat.le_of_ble_eq_true rfl) (by omega) (by omega) (by omega) ?_
  intro x3 h
  exact q_fret hX hT dX9_steam_8 h
set_option maxRecDepth 100000 in
set_option maxHeartbeats 4000000 in
theorem w_X9_boiledTotal {l : Launch} {D : DT} {L : LT}  {I : IT} {K : UInt32 → IT → Prop}  (h : f_X9_boiledTotal  I K) : Con2 l D m_X9_boiledTotal 2 [.ref 190] 0 0 I L (Pf L K) := by
  refine Con2.of (by decide +kernel) (by simp [Value.category]) (Nat.le_of_ble_eq_true rfl) (fun X hX hT => ?_)
  have hX : OK X D cX9_boiledTotal "TeaHouseModel" 1 := hX
  have hT : RT X l D (some .float) (P2 (Pf L K)) 2 0 0 := hT
  have hR := hT.room
  change J2 X D 1 0 0 I L 0 [.ref 190] []
  rw [f_X9_boiledTotal] at h
  refine q_aload_n hX dX9_boiledTotal_0 rfl ?_
  refine q_bipush hX dX9_boiledTotal_1 (v := (nI 6)) (by decide) ?_
  refine q_V_i hX hR (w_X9_told  h) lk_X9_146 (rc2_of (ci := 10) rfl rfl) dX9_boiledTotal_3 rfl rfl (Nat.le_of_ble_eq_true rfl) (by omega) (by omega) (by omega) ?_
  intro x1 I2 h
  refine q_S_fp hX hR (w_X9_eighths  h) lk_X9_128 dX9_boiledTotal_6 rfl rfl (Nat.le_of_ble_eq_true rfl) (by omega) (by omega) (by omega) ?_
  intro x3 h
  exact q_fret hX hT dX9_boiledTotal_9 h
set_option maxRecDepth 100000 in
set_option maxHeartbeats 4000000 in
theorem w_X9_pouredTotal {l : Launch} {D : DT} {L : LT}  {I : IT} {K : UInt32 → IT → Prop}  (h : f_X9_pouredTotal  I K) : Con2 l D m_X9_pouredTotal 2 [.ref 190] 0 0 I L (Pf L K) := by
  refine Con2.of (by decide +kernel) (by simp [Value.category]) (Nat.le_of_ble_eq_true rfl) (fun X hX hT => ?_)
  have hX : OK X D cX9_pouredTotal "TeaHouseModel" 1 := hX
  have hT : RT X l D (some .float) (P2 (Pf L K)) 2 0 0 := hT
  have hR := hT.room
  change J2 X D 1 0 0 I L 0 [.ref 190] []
  rw [f_X9_pouredTotal] at h
  refine q_aload_n hX dX9_pouredTotal_0 rfl ?_
  refine q_bipush hX dX9_pouredTotal_1 (v := (nI 7)) (by decide) ?_
  refine q_V_i hX hR (w_X9_told  h) lk_X9_146 (rc2_of (ci := 10) rfl rfl) dX9_pouredTotal_3 rfl rfl (Nat.le_of_ble_eq_true rfl) (by omega) (by omega) (by omega) ?_
  intro x1 I2 h
  refine q_S_fp hX hR (w_X9_eighths  h) lk_X9_128 dX9_pouredTotal_6 rfl rfl (Nat.le_of_ble_eq_true rfl) (by omega) (by omega) (by omega) ?_
  intro x3 h
  exact q_fret hX hT dX9_pouredTotal_9 h
set_option maxRecDepth 100000 in
set_option maxHeartbeats 4000000 in
theorem w_X9_filledTotal {l : Launch} {D : DT} {L : LT}  {I : IT} {K : UInt32 → IT → Prop}  (h : f_X9_filledTotal  I K) : Con2 l D m_X9_filledTotal 2 [.ref 190] 0 0 I L (Pf L K) := by
  refine Con2.of (by decide +kernel) (by simp [Value.category]) (Nat.le_of_ble_eq_true rfl) (fun X hX hT => ?_)
  have hX : OK X D cX9_filledTotal "TeaHouseModel" 1 := hX
  have hT : RT X l D (some .float) (P2 (Pf L K)) 2 0 0 := hT
  have hR := hT.room
  change J2 X D 1 0 0 I L 0 [.ref 190] []
  rw [f_X9_filledTotal] at h
  refine q_aload_n hX dX9_filledTotal_0 rfl ?_
  refine q_bipush hX dX9_filledTotal_1 (v := (nI 8)) (by decide) ?_
  refine q_V_i hX hR (w_X9_told  h) lk_X9_146 (rc2_of (ci := 10) rfl rfl) dX9_filledTotal_3 rfl rfl (Nat.le_of_ble_eq_true rfl) (by omega) (by omega) (by omega) ?_
  intro x1 I2 h
  refine q_S_fp hX hR (w_X9_eighths  h) lk_X9_128 dX9_filledTotal_6 rfl rfl (Nat.le_of_ble_eq_true rfl) (by omega) (by omega) (by omega) ?_
  intro x3 h
  exact q_fret hX hT dX9_filledTotal_9 h
set_option maxRecDepth 100000 in
set_option maxHeartbeats 4000000 in
theorem w_X9_cupPrice {l : Launch} {D : DT} {L : LT}  {I : IT} {K : UInt32 → IT → Prop}  (h : f_X9_cupPrice  I K) : Con2 l D m_X9_cupPrice 2 [.ref 190] 0 0 I L (Pf L K) := by
  refine Con2.of (by decide +kernel) (by simp [Value.category]) (Nat.le_of_ble_eq_true rfl) (fun X hX hT => ?_)
  have hX : OK X D cX9_cupPrice "TeaHouseModel" 1 := hX
  have hT : RT X l D (some .float) (P2 (Pf L K)) 2 0 0 := hT
  have hR := hT.room
  change J2 X D 1 0 0 I L 0 [.ref 190] []
  rw [f_X9_cupPrice] at h
  refine q_aload_n hX dX9_cupPrice_0 rfl ?_
  refine q_bipush hX dX9_cupPrice_1 (v := (nI 9)) (by decide) ?_
  refine q_V_i hX hR (w_X9_told  h) lk_X9_146 (rc2_of (ci := 10) rfl rfl) dX9_cupPrice_3 rfl rfl (Nat.le_of_ble_eq_true rfl) (by omega) (by omega) (by omega) ?_
  intro x1 I2 h
  refine q_S_fp hX hR (w_X9_eighths  h) lk_X9_128 dX9_cupPrice_6 rfl rfl (Nat.le_of_ble_eq_true rfl) (by omega) (by omega) (by omega) ?_
  intro x3 h
  exact q_fret hX hT dX9_cupPrice_9 h
set_option maxRecDepth 100000 in
set_option maxHeartbeats 4000000 in
theorem w_X9_steamPrice {l : Launch} {D : DT} {L : LT}  {I : IT} {K : UInt32 → IT → Prop}  (h : f_X9_steamPrice  I K) : Con2 l D m_X9_steamPrice 2 [.ref 190] 0 0 I L (Pf L K) := by
  refine Con2.of (by decide +kernel) (by simp [Value.category]) (Nat.le_of_ble_eq_true rfl) (fun X hX hT => ?_)
  have hX : OK X D cX9_steamPrice "TeaHouseModel" 1 := hX
  have hT : RT X l D (some .float) (P2 (Pf L K)) 2 0 0 := hT
  have hR := hT.room
  change J2 X D 1 0 0 I L 0 [.ref 190] []
  rw [f_X9_steamPrice] at h
  refine q_aload_n hX dX9_steamPrice_0 rfl ?_
  refine q_bipush hX dX9_steamPrice_1 (v := (nI 10)) (by decide) ?_
  refine q_V_i hX hR (w_X9_told  h) lk_X9_146 (rc2_of (ci := 10) rfl rfl) dX9_steamPrice_3 rfl rfl (Nat.le_of_ble_eq_true rfl) (by omega) (by omega) (by omega) ?_
  intro x1 I2 h
  refine q_i2f hX dX9_steamPrice_6 ?_
  exact q_fret hX hT dX9_steamPrice_7 h
set_option maxRecDepth 100000 in
set_option maxHeartbeats 4000000 in
theorem w_X9_income {l : Launch} {D : DT} {L : LT}  {I : IT} {K : UInt32 → IT → Prop}  (h : f_X9_income  I K) : Con2 l D m_X9_income 2 [.ref 190] 0 0 I L (Pf L K) := by
  refine Con2.of (by decide +kernel) (by simp [Value.category]) (Nat.le_of_ble_eq_true rfl) (fun X hX hT => ?_)
  have hX : OK X D cX9_income "TeaHouseModel" 1 := hX
  have hT : RT X l D (some .float) (P2 (Pf L K)) 2 0 0 := hT
  have hR := hT.room
  change J2 X D 1 0 0 I L 0 [.ref 190] []
  rw [f_X9_income] at h
  refine q_aload_n hX dX9_income_0 rfl ?_
  refine q_bipush hX dX9_income_1 (v := (nI 12)) (by decide) ?_
  refine q_V_i hX hR (w_X9_told  h) lk_X9_146 (rc2_of (ci := 10) rfl rfl) dX9_income_3 rfl rfl (Nat.le_of_ble_eq_true rfl) (by omega) (by omega) (by omega) ?_
  intro x1 I2 h
  refine q_S_fp hX hR (w_X9_eighths  h) lk_X9_128 dX9_income_6 rfl rfl (Nat.le_of_ble_eq_true rfl) (by omega) (by omega) (by omega) ?_
  intro x3 h
  exact q_fret hX hT dX9_income_9 h
set_option maxRecDepth 100000 in
set_option maxHeartbeats 4000000 in
theorem w_X9_nightCount {l : Launch} {D : DT} {L : LT}  {I : IT} {K : Int32 → IT → Prop}  (h : f_X9_nightCount  I K) : Con2 l D m_X9_nightCount 2 [.ref 190] 0 0 I L (Pi L K) := by
  refine Con2.of (by decide +kernel) (by simp [Value.category]) (Nat.le_of_ble_eq_true rfl) (fun X hX hT => ?_)
  have hX : OK X D cX9_nightCount "TeaHouseModel" 1 := hX
  have hT : RT X l D (some .int) (P2 (Pi L K)) 2 0 0 := hT
  have hR := hT.room
  change J2 X D 1 0 0 I L 0 [.ref 190] []
  rw [f_X9_nightCount] at h
  refine q_aload_n hX dX9_nightCount_0 rfl ?_
  refine q_bipush hX dX9_nightCount_1 (v := (nI 13)) (by decide) ?_
  refine q_V_i hX hR (w_X9_told  h) lk_X9_146 (rc2_of (ci := 10) rfl rfl) dX9_nightCount_3 rfl rfl (Nat.le_of_ble_eq_true rfl) (by omega) (by omega) (by omega) ?_
  intro x1 I2 h
  exact q_iret hX hT dX9_nightCount_6 h
set_option maxRecDepth 100000 in
set_option maxHeartbeats 4000000 in
theorem w_X9_nightIncome {l : Launch} {D : DT} {L : LT} {a1 : Int32} {I : IT} {K : UInt32 → IT → Prop}  (h : f_X9_nightIncome a1 I K) : Con2 l D m_X9_nightIncome 2 [.ref 190, .int a1] 0 0 I L (Pf L K) := by
  refine Con2.of (by decide +kernel) (by simp [Value.category]) (Nat.le_of_ble_eq_true rfl) (fun X hX hT => ?_)
  have hX : OK X D cX9_nightIncome "TeaHouseModel" 2 := hX
  have hT : RT X l D (some .float) (P2 (Pf L K)) 2 0 0 := hT
  have hR := hT.room
  change J2 X D 2 0 0 I L 0 [.ref 190, .int a1] []
  rw [f_X9_nightIncome] at h
  refine q_aload_n hX dX9_nightIncome_0 rfl ?_
  refine q_iload_n hX dX9_nightIncome_1 rfl ?_
  refine q_iconst hX dX9_nightIncome_2 (v := (nI 0)) (by decide) ?_
  refine q_aload_n hX dX9_nightIncome_3 rfl ?_
  refine q_getR hX gf_X9_9 rfl dX9_nightIncome_4 (at_of (n := 0) rfl) (b := 191) rfl ?_
  refine q_bipush hX dX9_nightIncome_7 (v := (nI 13)) (by decide) ?_
  refine q_iald hX dX9_nightIncome_9 (at_of (a := 191) (t := 22) (n := 1236) rfl) (j := 13) rfl (by decide) (by decide) ?_
  refine q_iconst hX dX9_nightIncome_10 (v := (nI 1)) (by decide) ?_
  refine q_isub hX dX9_nightIncome_11 ?_
  refine q_S_zp hX hR (w_X9_in  h) lk_X9_44 dX9_nightIncome_12 rfl rfl (Nat.le_of_ble_eq_true rfl) (by omega) (by omega) (by omega) ?_
  intro x1 hrx1 h
  refine q_V_z hX hR (w_X9_isFine hrx1 h) lk_X9_149 (rc2_of (ci := 10) rfl rfl) dX9_nightIncome_15 rfl rfl (Nat.le_of_ble_eq_true rfl) (by omega) (by omega) (by omega) ?_
  intro x2 I3 hrx2 h
  refine q_if_eq hX dX9_nightIncome_18 (tgt := 36) (by decide) (fun q4 => ?_) (fun q4 => ?_)
  · replace h := ite_t q4 h
    refine q_fconst0 hX dX9_nightIncome_36 ?_
    exact q_fret hX hT dX9_nightIncome_37 h
  · replace h := ite_f q4 h
    refine q_aload_n hX dX9_nightIncome_21 rfl ?_
    refine q_getR hX gf_X9_9 rfl dX9_nightIncome_22 (at_of (n := 0) rfl) (b := 191) rfl ?_
    refine q_bipush hX dX9_nightIncome_25 (v := (nI 19)) (by decide) ?_
    refine q_iload_n hX dX9_nightIncome_27 rfl ?_
    refine q_iadd hX dX9_nightIncome_28 ?_
    obtain ⟨z5, h⟩ := h
    refine q_iald hX dX9_nightIncome_29 (at_of (a := 191) (t := 22) (n := 1236) rfl) (inr_e z5) (inr_lt z5) (by decide) ?_
    refine q_S_fp hX hR (w_X9_eighths  h) lk_X9_128 dX9_nightIncome_30 rfl rfl (Nat.le_of_ble_eq_true rfl) (by omega) (by omega) (by omega) ?_
    intro x6 h
    refine q_goto hX dX9_nightIncome_33 (tgt := 37) (by decide) ?_
    exact q_fret hX hT dX9_nightIncome_37 h
set_option maxRecDepth 100000 in
set_option maxHeartbeats 4000000 in
theorem w_X9_nightByIncome_b86 {X : XT} {D : DT} {l : Launch} {L : LT} {a1 : Int32} {K : Int32 → IT → Prop} {X18 : Int32 → Int32 → Int32 → IT → Prop} (hX : OK X D cX9_nightByIncome "TeaHouseModel" 5) (hT : RT X l D (some .int) (P2 (Pi L K)) 2 0 0)  (hx18 : ∀ (v2 : Int32) (v3 : Int32) (v4 : Int32) (I : IT), X18 v2 v3 v4 I → J2 X D 5 0 0 I L 18 [.ref 190, .int a1, .int v2, .int v3, .int v4] []) : ∀ (v2 : Int32) (v4 : Int32) (s0 : Int32) (s1 : Int32) (I : IT), isZ s1 → isC s1 → f_X9_nightByIncome_b86 a1 X18 K v2 v4 s0 s1 I → J2 X D 5 0 0 I L 86 [.ref 190, .int a1, .int v2, .retAddr 0, .int v4] [.int s1, .int s0] := by
  have hR := hT.room
  intro v2 v4 s0 s1 I hzs1 hcs1 h
  rw [f_X9_nightByIncome_b86] at h
  refine q_iadd hX dX9_nightByIncome_86 ?_
  replace h := bnd_e h
  refine q_istore_n hX dX9_nightByIncome_87 (by decide) (ls' := [_, _, _, _, _]) rfl ?_
  replace h := bnd_e h
  refine q_iinc hX dX9_nightByIncome_88 (by decide) rfl (v := _ + nI 1) (ls' := [_, _, _, _, _]) rfl rfl ?_
  refine q_goto hX dX9_nightByIncome_91 (tgt := 18) (by decide) ?_
  exact q_dr (hx18 _ _ _ _  h) ⟨Or.inl rfl, Or.inl rfl, Or.inl rfl, Or.inl rfl, Or.inl rfl, trivial⟩
set_option maxRecDepth 100000 in
set_option maxHeartbeats 4000000 in
theorem w_X9_nightByIncome_b81 {X : XT} {D : DT} {l : Launch} {L : LT} {a1 : Int32} {K : Int32 → IT → Prop} {X18 : Int32 → Int32 → Int32 → IT → Prop} (hX : OK X D cX9_nightByIncome "TeaHouseModel" 5) (hT : RT X l D (some .int) (P2 (Pi L K)) 2 0 0)  (hx18 : ∀ (v2 : Int32) (v3 : Int32) (v4 : Int32) (I : IT), X18 v2 v3 v4 I → J2 X D 5 0 0 I L 18 [.ref 190, .int a1, .int v2, .int v3, .int v4] []) : ∀ (v2 : Int32) (v4 : Int32) (s0 : Int32) (I : IT), f_X9_nightByIncome_b81 a1 X18 K v2 v4 s0 I → J2 X D 5 0 0 I L 81 [.ref 190, .int a1, .int v2, .retAddr 0, .int v4] [.int s0] := by
  have hR := hT.room
  intro v2 v4 s0 I h
  rw [f_X9_nightByIncome_b81] at h
  refine q_iconst hX dX9_nightByIncome_81 (v := (nI 1)) (by decide) ?_
  refine q_goto hX dX9_nightByIncome_82 (tgt := 86) (by decide) ?_
  exact q_dr (w_X9_nightByIncome_b86 hX hT  hx18  _ _ _ _ _ (Or.inr rfl) (isC_n (by decide)) h) ⟨Or.inl rfl, Or.inl rfl, Or.inl rfl, Or.inl rfl, Or.inl rfl, trivial⟩
set_option maxRecDepth 100000 in
set_option maxHeartbeats 4000000 in
theorem w_X9_nightByIncome_b85 {X : XT} {D : DT} {l : Launch} {L : LT} {a1 : Int32} {K : Int32 → IT → Prop} {X18 : Int32 → Int32 → Int32 → IT → Prop} (hX : OK X D cX9_nightByIncome "TeaHouseModel" 5) (hT : RT X l D (some .int) (P2 (Pi L K)) 2 0 0)  (hx18 : ∀ (v2 : Int32) (v3 : Int32) (v4 : Int32) (I : IT), X18 v2 v3 v4 I → J2 X D 5 0 0 I L 18 [.ref 190, .int a1, .int v2, .int v3, .int v4] []) : ∀ (v2 : Int32) (v4 : Int32) (s0 : Int32) (I : IT), f_X9_nightByIncome_b85 a1 X18 K v2 v4 s0 I → J2 X D 5 0 0 I L 85 [.ref 190, .int a1, .int v2, .retAddr 0, .int v4] [.int s0] := by
  have hR := hT.room
  intro v2 v4 s0 I h
  rw [f_X9_nightByIncome_b85] at h
  refine q_iconst hX dX9_nightByIncome_85 (v := (nI 0)) (by decide) ?_
  exact q_dr (w_X9_nightByIncome_b86 hX hT  hx18  _ _ _ _ _ (Or.inl rfl) (isC_n (by decide)) h) ⟨Or.inl rfl, Or.inl rfl, Or.inl rfl, Or.inl rfl, Or.inl rfl, trivial⟩
set_option maxRecDepth 100000 in
set_option maxHeartbeats 4000000 in
theorem w_X9_nightByIncome_b18 {X : XT} {D : DT} {l : Launch} {L : LT} {a1 : Int32} {K : Int32 → IT → Prop} {X105 : Int32 → Int32 → IT → Prop} (hX : OK X D cX9_nightByIncome "TeaHouseModel" 5) (hT : RT X l D (some .int) (P2 (Pi L K)) 2 0 0)  (hx105 : ∀ (v2 : Int32) (s1 : Int32) (I : IT), isZ s1 → isC s1 → X105 v2 s1 I → J2 X D 5 0 0 I L 105 [.ref 190, .int a1, .int v2, .retAddr 0, .retAddr 0] [.int s1, .ref 190]) : ∀ (n : Nat), ∀ (v2 : Int32) (v3 : Int32) (v4 : Int32) (I : IT), f_X9_nightByIncome_b18 a1 X105 K n v2 v3 v4 I → J2 X D 5 0 0 I L 18 [.ref 190, .int a1, .int v2, .int v3, .int v4] [] := by
  have hR := hT.room
  intro n
  induction n with
  | zero => intro v2 v3 v4 I h; exact False.elim h
  | succ n ih =>
    intro v2 v3 v4 I h
    rw [f_X9_nightByIncome_b18] at h
    refine q_iload hX dX9_nightByIncome_18 rfl ?_
    refine q_aload_n hX dX9_nightByIncome_20 rfl ?_
    refine q_getR hX gf_X9_9 rfl dX9_nightByIncome_21 (at_of (n := 0) rfl) (b := 191) rfl ?_
    refine q_bipush hX dX9_nightByIncome_24 (v := (nI 13)) (by decide) ?_
    refine q_iald hX dX9_nightByIncome_26 (at_of (a := 191) (t := 22) (n := 1236) rfl) (j := 13) rfl (by decide) (by decide) ?_
    refine q_icmp_ge hX dX9_nightByIncome_27 (tgt := 94) (by decide) (fun q1 => ?_) (fun q1 => ?_)
    · replace h := ite_t q1 h
      refine q_aload_n hX dX9_nightByIncome_94 rfl ?_
      refine q_iload_n hX dX9_nightByIncome_95 rfl ?_
      refine q_iload_n hX dX9_nightByIncome_96 rfl ?_
      refine q_icmp_ne hX dX9_nightByIncome_97 (tgt := 104) (by decide) (fun q2 => ?_) (fun q2 => ?_)
      · replace h := ite_f q2 h
        refine q_iconst hX dX9_nightByIncome_104 (v := (nI 0)) (by decide) ?_
        exact q_dr (hx105 _ _ _ (Or.inl rfl) (isC_n (by decide)) h) ⟨Or.inl rfl, Or.inl rfl, Or.inl rfl, Or.inr rfl, Or.inr rfl, trivial⟩
      · replace h := ite_t q2 h
        refine q_iconst hX dX9_nightByIncome_100 (v := (nI 1)) (by decide) ?_
        refine q_goto hX dX9_nightByIncome_101 (tgt := 105) (by decide) ?_
        exact q_dr (hx105 _ _ _ (Or.inr rfl) (isC_n (by decide)) h) ⟨Or.inl rfl, Or.inl rfl, Or.inl rfl, Or.inr rfl, Or.inr rfl, trivial⟩
    · replace h := ite_f q1 h
      refine q_iload_n hX dX9_nightByIncome_30 rfl ?_
      refine q_aload_n hX dX9_nightByIncome_31 rfl ?_
      refine q_getR hX gf_X9_9 rfl dX9_nightByIncome_32 (at_of (n := 0) rfl) (b := 191) rfl ?_
      refine q_bipush hX dX9_nightByIncome_35 (v := (nI 19)) (by decide) ?_
      refine q_iload hX dX9_nightByIncome_37 rfl ?_
      refine q_iadd hX dX9_nightByIncome_39 ?_
      obtain ⟨z3, h⟩ := h
      refine q_iald hX dX9_nightByIncome_40 (at_of (a := 191) (t := 22) (n := 1236) rfl) (inr_e z3) (inr_lt z3) (by decide) ?_
      refine q_aload_n hX dX9_nightByIncome_41 rfl ?_
      refine q_getR hX gf_X9_9 rfl dX9_nightByIncome_42 (at_of (n := 0) rfl) (b := 191) rfl ?_
      refine q_bipush hX dX9_nightByIncome_45 (v := (nI 19)) (by decide) ?_
      refine q_iload_n hX dX9_nightByIncome_47 rfl ?_
      refine q_iadd hX dX9_nightByIncome_48 ?_
      obtain ⟨z4, h⟩ := h
      refine q_iald hX dX9_nightByIncome_49 (at_of (a := 191) (t := 22) (n := 1236) rfl) (inr_e z4) (inr_lt z4) (by decide) ?_
      refine q_icmp_gt hX dX9_nightByIncome_50 (tgt := 81) (by decide) (fun q5 => ?_) (fun q5 => ?_)
      · replace h := ite_t q5 h
        exact q_dr (w_X9_nightByIncome_b81 hX hT  (fun _ _ _ _ h => ih _ _ _ _  h)  _ _ _ _  h) ⟨Or.inl rfl, Or.inl rfl, Or.inl rfl, Or.inr rfl, Or.inl rfl, trivial⟩
      · replace h := ite_f q5 h
        refine q_aload_n hX dX9_nightByIncome_53 rfl ?_
        refine q_getR hX gf_X9_9 rfl dX9_nightByIncome_54 (at_of (n := 0) rfl) (b := 191) rfl ?_
        refine q_bipush hX dX9_nightByIncome_57 (v := (nI 19)) (by decide) ?_
        refine q_iload hX dX9_nightByIncome_59 rfl ?_
        refine q_iadd hX dX9_nightByIncome_61 ?_
        refine q_iald hX dX9_nightByIncome_62 (at_of (a := 191) (t := 22) (n := 1236) rfl) (inr_e z3) (inr_lt z3) (by decide) ?_
        refine q_aload_n hX dX9_nightByIncome_63 rfl ?_
        refine q_getR hX gf_X9_9 rfl dX9_nightByIncome_64 (at_of (n := 0) rfl) (b := 191) rfl ?_
        refine q_bipush hX dX9_nightByIncome_67 (v := (nI 19)) (by decide) ?_
        refine q_iload_n hX dX9_nightByIncome_69 rfl ?_
        refine q_iadd hX dX9_nightByIncome_70 ?_
        refine q_iald hX dX9_nightByIncome_71 (at_of (a := 191) (t := 22) (n := 1236) rfl) (inr_e z4) (inr_lt z4) (by decide) ?_
        refine q_icmp_ne hX dX9_nightByIncome_72 (tgt := 85) (by decide) (fun q6 => ?_) (fun q6 => ?_)
        · replace h := ite_f q6 h
          exact q_dr (w_X9_nightByIncome_b85 hX hT  (fun _ _ _ _ h => ih _ _ _ _  h)  _ _ _ _  h) ⟨Or.inl rfl, Or.inl rfl, Or.inl rfl, Or.inr rfl, Or.inl rfl, trivial⟩
        · replace h := ite_t q6 h
          refine q_iload hX dX9_nightByIncome_75 rfl ?_
          refine q_iload_n hX dX9_nightByIncome_77 rfl ?_
          refine q_icmp_ge hX dX9_nightByIncome_78 (tgt := 85) (by decide) (fun q7 => ?_) (fun q7 => ?_)
          · replace h := ite_t q7 h
            exact q_dr (w_X9_nightByIncome_b85 hX hT  (fun _ _ _ _ h => ih _ _ _ _  h)  _ _ _ _  h) ⟨Or.inl rfl, Or.inl rfl, Or.inl rfl, Or.inr rfl, Or.inl rfl, trivial⟩
          · replace h := ite_f q7 h
            exact q_dr (w_X9_nightByIncome_b81 hX hT  (fun _ _ _ _ h => ih _ _ _ _  h)  _ _ _ _  h) ⟨Or.inl rfl, Or.inl rfl, Or.inl rfl, Or.inr rfl, Or.inl rfl, trivial⟩
set_option maxRecDepth 100000 in
set_option maxHeartbeats 4000000 in
theorem w_X9_nightByIncome_b105 {X : XT} {D : DT} {l : Launch} {L : LT} {a1 : Int32} {K : Int32 → IT → Prop} {X2 : Int32 → IT → Prop} (hX : OK X D cX9_nightByIncome "TeaHouseModel" 5) (hT : RT X l D (some .int) (P2 (Pi L K)) 2 0 0)  (hx2 : ∀ (v2 : Int32) (I : IT), X2 v2 I → J2 X D 5 0 0 I L 2 [.ref 190, .int a1, .int v2, .retAddr 0, .retAddr 0] []) : ∀ (v2 : Int32) (s1 : Int32) (I : IT), isZ s1 → isC s1 → f_X9_nightByIncome_b105 a1 X2 K v2 s1 I → J2 X D 5 0 0 I L 105 [.ref 190, .int a1, .int v2, .retAddr 0, .retAddr 0] [.int s1, .ref 190] := by
  have hR := hT.room
  intro v2 s1 I hzs1 hcs1 h
  rw [f_X9_nightByIncome_b105] at h
  refine q_V_z hX hR (w_X9_isFine hzs1 h) lk_X9_149 (rc2_of (ci := 10) rfl rfl) dX9_nightByIncome_105 rfl rfl (Nat.le_of_ble_eq_true rfl) (by omega) (by omega) (by omega) ?_
  intro x1 I2 hrx1 h
  refine q_if_eq hX dX9_nightByIncome_108 (tgt := 113) (by decide) (fun q3 => ?_) (fun q3 => ?_)
  · replace h := ite_t q3 h
    replace h := bnd_e h
    refine q_iinc hX dX9_nightByIncome_113 (by decide) rfl (v := _ + nI 1) (ls' := [_, _, _, _, _]) rfl rfl ?_
    refine q_goto hX dX9_nightByIncome_116 (tgt := 2) (by decide) ?_
    exact q_dr (hx2 _ _  h) ⟨Or.inl rfl, Or.inl rfl, Or.inl rfl, Or.inl rfl, Or.inl rfl, trivial⟩
  · replace h := ite_f q3 h
    refine q_iload_n hX dX9_nightByIncome_111 rfl ?_
    exact q_iret hX hT dX9_nightByIncome_112 h
set_option maxRecDepth 100000 in
set_option maxHeartbeats 4000000 in
theorem w_X9_nightByIncome_b2 {X : XT} {D : DT} {l : Launch} {L : LT} {a1 : Int32} {K : Int32 → IT → Prop} (hX : OK X D cX9_nightByIncome "TeaHouseModel" 5) (hT : RT X l D (some .int) (P2 (Pi L K)) 2 0 0)   : ∀ (n : Nat), ∀ (v2 : Int32) (I : IT), f_X9_nightByIncome_b2 a1 K n v2 I → J2 X D 5 0 0 I L 2 [.ref 190, .int a1, .int v2, .retAddr 0, .retAddr 0] [] := by
  have hR := hT.room
  intro n
  induction n with
  | zero => intro v2 I h; exact False.elim h
  | succ n ih =>
    intro v2 I h
    rw [f_X9_nightByIncome_b2] at h
    refine q_iload_n hX dX9_nightByIncome_2 rfl ?_
    refine q_aload_n hX dX9_nightByIncome_3 rfl ?_
    refine q_getR hX gf_X9_9 rfl dX9_nightByIncome_4 (at_of (n := 0) rfl) (b := 191) rfl ?_
    refine q_bipush hX dX9_nightByIncome_7 (v := (nI 13)) (by decide) ?_
    refine q_iald hX dX9_nightByIncome_9 (at_of (a := 191) (t := 22) (n := 1236) rfl) (j := 13) rfl (by decide) (by decide) ?_
    refine q_icmp_ge hX dX9_nightByIncome_10 (tgt := 119) (by decide) (fun q1 => ?_) (fun q1 => ?_)
    · replace h := ite_t q1 h
      refine q_aload_n hX dX9_nightByIncome_119 rfl ?_
      refine q_iconst hX dX9_nightByIncome_120 (v := (nI 1)) (by decide) ?_
      replace h := wr_e h
      refine q_putI hX pf_X9_30 rfl dX9_nightByIncome_121 (at_of (n := 0) rfl) rfl rfl ?_
      generalize up2 _ _ _ _ = I2 at h ⊢
      refine q_iconst hX dX9_nightByIncome_124 (v := (nI 0)) (by decide) ?_
      exact q_iret hX hT dX9_nightByIncome_125 h
    · replace h := ite_f q1 h
      refine q_iconst hX dX9_nightByIncome_13 (v := (nI 0)) (by decide) ?_
      refine q_istore_n hX dX9_nightByIncome_14 (by decide) (ls' := [_, _, _, _, _]) rfl ?_
      refine q_iconst hX dX9_nightByIncome_15 (v := (nI 0)) (by decide) ?_
      refine q_istore hX dX9_nightByIncome_16 (by decide) (ls' := [_, _, _, _, _]) rfl ?_
      exact q_dr (w_X9_nightByIncome_b18 hX hT  (fun _ _ _ hzs1 hcs1 h => w_X9_nightByIncome_b105 hX hT  (fun _ _ h => ih _ _  h)  _ _ _ hzs1 hcs1 h) _  _ _ _ _  h) ⟨Or.inl rfl, Or.inl rfl, Or.inl rfl, Or.inl rfl, Or.inl rfl, trivial⟩
set_option maxRecDepth 100000 in
set_option maxHeartbeats 4000000 in
theorem w_X9_nightByIncome {l : Launch} {D : DT} {L : LT} {a1 : Int32} {I : IT} {K : Int32 → IT → Prop}  (h : f_X9_nightByIncome a1 I K) : Con2 l D m_X9_nightByIncome 2 [.ref 190, .int a1] 0 0 I L (Pi L K) := by
  refine Con2.of (by decide +kernel) (by simp [Value.category]) (Nat.le_of_ble_eq_true rfl) (fun X hX hT => ?_)
  have hX : OK X D cX9_nightByIncome "TeaHouseModel" 5 := hX
  have hT : RT X l D (some .int) (P2 (Pi L K)) 2 0 0 := hT
  have hR := hT.room
  change J2 X D 5 0 0 I L 0 [.ref 190, .int a1, .retAddr 0, .retAddr 0, .retAddr 0] []
  rw [f_X9_nightByIncome] at h
  refine q_iconst hX dX9_nightByIncome_0 (v := (nI 0)) (by decide) ?_
  refine q_istore_n hX dX9_nightByIncome_1 (by decide) (ls' := [_, _, _, _, _]) rfl ?_
  exact q_dr (w_X9_nightByIncome_b2 hX hT   _  _ _  h) ⟨Or.inl rfl, Or.inl rfl, Or.inl rfl, Or.inl rfl, Or.inl rfl, trivial⟩
set_option maxRecDepth 100000 in
set_option maxHeartbeats 4000000 in
theorem w_X9_greatestIncome_b66 {X : XT} {D : DT} {l : Launch} {L : LT} {a1 : Int32} {K : UInt32 → IT → Prop} {X47 : Int32 → Int32 → IT → Prop} (hX : OK X D cX9_greatestIncome "TeaHouseModel" 6) (hT : RT X l D (some .float) (P2 (Pf L K)) 2 0 0)  (hx47 : ∀ (v2 : Int32) (v3 : Int32) (I : IT), X47 v2 v3 I → J2 X D 6 0 0 I L 47 [.ref 190, .int a1, .int v2, .int v3, .retAddr 0, .retAddr 0] []) : ∀ (n : Nat), ∀ (v2 : Int32) (v3 : Int32) (v4 : Int32) (v5 : Int32) (I : IT), f_X9_greatestIncome_b66 a1 X47 K n v2 v3 v4 v5 I → J2 X D 6 0 0 I L 66 [.ref 190, .int a1, .int v2, .int v3, .int v4, .int v5] [] := by
  have hR := hT.room
  intro n
  induction n with
  | zero => intro v2 v3 v4 v5 I h; exact False.elim h
  | succ n ih =>
    intro v2 v3 v4 v5 I h
    rw [f_X9_greatestIncome_b66] at h
    refine q_iload hX dX9_greatestIncome_66 rfl ?_
    refine q_iload_n hX dX9_greatestIncome_68 rfl ?_
    refine q_iload_n hX dX9_greatestIncome_69 rfl ?_
    refine q_iadd hX dX9_greatestIncome_70 ?_
    refine q_icmp_ge hX dX9_greatestIncome_71 (tgt := 95) (by decide) (fun q1 => ?_) (fun q1 => ?_)
    · replace h := ite_t q1 h
      refine q_iload hX dX9_greatestIncome_95 rfl ?_
      refine q_iload_n hX dX9_greatestIncome_97 rfl ?_
      refine q_icmp_le hX dX9_greatestIncome_98 (tgt := 106) (by decide) (fun q2 => ?_) (fun q2 => ?_)
      · replace h := ite_t q2 h
        refine q_iload_n hX dX9_greatestIncome_106 rfl ?_
        refine q_istore_n hX dX9_greatestIncome_107 (by decide) (ls' := [_, _, _, _, _, _]) rfl ?_
        replace h := bnd_e h
        refine q_iinc hX dX9_greatestIncome_108 (by decide) rfl (v := _ + nI 1) (ls' := [_, _, _, _, _, _]) rfl rfl ?_
        refine q_goto hX dX9_greatestIncome_111 (tgt := 47) (by decide) ?_
        exact q_dr (hx47 _ _ _  h) ⟨Or.inl rfl, Or.inl rfl, Or.inl rfl, Or.inl rfl, Or.inr rfl, Or.inr rfl, trivial⟩
      · replace h := ite_f q2 h
        refine q_iload hX dX9_greatestIncome_101 rfl ?_
        refine q_goto hX dX9_greatestIncome_103 (tgt := 107) (by decide) ?_
        refine q_istore_n hX dX9_greatestIncome_107 (by decide) (ls' := [_, _, _, _, _, _]) rfl ?_
        replace h := bnd_e h
        refine q_iinc hX dX9_greatestIncome_108 (by decide) rfl (v := _ + nI 1) (ls' := [_, _, _, _, _, _]) rfl rfl ?_
        refine q_goto hX dX9_greatestIncome_111 (tgt := 47) (by decide) ?_
        exact q_dr (hx47 _ _ _  h) ⟨Or.inl rfl, Or.inl rfl, Or.inl rfl, Or.inl rfl, Or.inr rfl, Or.inr rfl, trivial⟩
    · replace h := ite_f q1 h
      refine q_iload hX dX9_greatestIncome_74 rfl ?_
      refine q_aload_n hX dX9_greatestIncome_76 rfl ?_
      refine q_getR hX gf_X9_9 rfl dX9_greatestIncome_77 (at_of (n := 0) rfl) (b := 191) rfl ?_
      refine q_bipush hX dX9_greatestIncome_80 (v := (nI 19)) (by decide) ?_
      refine q_iload hX dX9_greatestIncome_82 rfl ?_
      refine q_iadd hX dX9_greatestIncome_84 ?_
      obtain ⟨z5, h⟩ := h
      refine q_iald hX dX9_greatestIncome_85 (at_of (a := 191) (t := 22) (n := 1236) rfl) (inr_e z5) (inr_lt z5) (by decide) ?_
      refine q_iadd hX dX9_greatestIncome_86 ?_
      replace h := bnd_e h
      refine q_istore hX dX9_greatestIncome_87 (by decide) (ls' := [_, _, _, _, _, _]) rfl ?_
      replace h := bnd_e h
      refine q_iinc hX dX9_greatestIncome_89 (by decide) rfl (v := _ + nI 1) (ls' := [_, _, _, _, _, _]) rfl rfl ?_
      refine q_goto hX dX9_greatestIncome_92 (tgt := 66) (by decide) ?_
      exact q_dr (ih _ _ _ _ _  h) ⟨Or.inl rfl, Or.inl rfl, Or.inl rfl, Or.inl rfl, Or.inl rfl, Or.inl rfl, trivial⟩
set_option maxRecDepth 100000 in
set_option maxHeartbeats 4000000 in
theorem w_X9_greatestIncome_b47 {X : XT} {D : DT} {l : Launch} {L : LT} {a1 : Int32} {K : UInt32 → IT → Prop} (hX : OK X D cX9_greatestIncome "TeaHouseModel" 6) (hT : RT X l D (some .float) (P2 (Pf L K)) 2 0 0)   : ∀ (n : Nat), ∀ (v2 : Int32) (v3 : Int32) (I : IT), f_X9_greatestIncome_b47 a1 K n v2 v3 I → J2 X D 6 0 0 I L 47 [.ref 190, .int a1, .int v2, .int v3, .retAddr 0, .retAddr 0] [] := by
  have hR := hT.room
  intro n
  induction n with
  | zero => intro v2 v3 I h; exact False.elim h
  | succ n ih =>
    intro v2 v3 I h
    rw [f_X9_greatestIncome_b47] at h
    refine q_iload_n hX dX9_greatestIncome_47 rfl ?_
    refine q_iload_n hX dX9_greatestIncome_48 rfl ?_
    refine q_iadd hX dX9_greatestIncome_49 ?_
    refine q_aload_n hX dX9_greatestIncome_50 rfl ?_
    refine q_getR hX gf_X9_9 rfl dX9_greatestIncome_51 (at_of (n := 0) rfl) (b := 191) rfl ?_
    refine q_bipush hX dX9_greatestIncome_54 (v := (nI 13)) (by decide) ?_
    refine q_iald hX dX9_greatestIncome_56 (at_of (a := 191) (t := 22) (n := 1236) rfl) (j := 13) rfl (by decide) (by decide) ?_
    refine q_icmp_gt hX dX9_greatestIncome_57 (tgt := 114) (by decide) (fun q1 => ?_) (fun q1 => ?_)
    · replace h := ite_t q1 h
      refine q_iload_n hX dX9_greatestIncome_114 rfl ?_
      refine q_S_fp hX hR (w_X9_eighths  h) lk_X9_128 dX9_greatestIncome_115 rfl rfl (Nat.le_of_ble_eq_true rfl) (by omega) (by omega) (by omega) ?_
      intro x2 h
      exact q_fret hX hT dX9_greatestIncome_118 h
    · replace h := ite_f q1 h
      refine q_iconst hX dX9_greatestIncome_60 (v := (nI 0)) (by decide) ?_
      refine q_istore hX dX9_greatestIncome_61 (by decide) (ls' := [_, _, _, _, _, _]) rfl ?_
      refine q_iload_n hX dX9_greatestIncome_63 rfl ?_
      refine q_istore hX dX9_greatestIncome_64 (by decide) (ls' := [_, _, _, _, _, _]) rfl ?_
      exact q_dr (w_X9_greatestIncome_b66 hX hT  (fun _ _ _ h => ih _ _ _  h) _  _ _ _ _ _  h) ⟨Or.inl rfl, Or.inl rfl, Or.inl rfl, Or.inl rfl, Or.inl rfl, Or.inl rfl, trivial⟩
set_option maxRecDepth 100000 in
set_option maxHeartbeats 4000000 in
theorem w_X9_greatestIncome_b31 {X : XT} {D : DT} {l : Launch} {L : LT} {a1 : Int32} {K : UInt32 → IT → Prop} (hX : OK X D cX9_greatestIncome "TeaHouseModel" 6) (hT : RT X l D (some .float) (P2 (Pf L K)) 2 0 0)   : ∀ (s1 : Int32) (I : IT), isC s1 → f_X9_greatestIncome_b31 a1 K s1 I → J2 X D 6 0 0 I L 31 [.ref 190, .int a1, .retAddr 0, .retAddr 0, .retAddr 0, .retAddr 0] [.int s1, .ref 190] := by
  have hR := hT.room
  intro s1 I hcs1 h
  rw [f_X9_greatestIncome_b31] at h
  replace h := wr_e h
  refine q_putI hX pf_X9_30 rfl dX9_greatestIncome_31 (at_of (n := 0) rfl) rfl rfl ?_
  generalize up2 _ _ _ _ = I1 at h ⊢
  refine q_aload_n hX dX9_greatestIncome_34 rfl ?_
  refine q_getI hX gf_X9_30 rfl dX9_greatestIncome_35 (at_of (n := 0) rfl) ?_
  refine q_if_eq hX dX9_greatestIncome_38 (tgt := 43) (by decide) (fun q2 => ?_) (fun q2 => ?_)
  · replace h := ite_t q2 h
    refine q_iconst hX dX9_greatestIncome_43 (v := (nI 0)) (by decide) ?_
    refine q_istore_n hX dX9_greatestIncome_44 (by decide) (ls' := [_, _, _, _, _, _]) rfl ?_
    refine q_iconst hX dX9_greatestIncome_45 (v := (nI 0)) (by decide) ?_
    refine q_istore_n hX dX9_greatestIncome_46 (by decide) (ls' := [_, _, _, _, _, _]) rfl ?_
    exact q_dr (w_X9_greatestIncome_b47 hX hT   _  _ _ _  h) ⟨Or.inl rfl, Or.inl rfl, Or.inl rfl, Or.inl rfl, Or.inl rfl, Or.inl rfl, trivial⟩
  · replace h := ite_f q2 h
    refine q_fconst0 hX dX9_greatestIncome_41 ?_
    exact q_fret hX hT dX9_greatestIncome_42 h
set_option maxRecDepth 100000 in
set_option maxHeartbeats 4000000 in
theorem w_X9_greatestIncome {l : Launch} {D : DT} {L : LT} {a1 : Int32} {I : IT} {K : UInt32 → IT → Prop}  (h : f_X9_greatestIncome a1 I K) : Con2 l D m_X9_greatestIncome 2 [.ref 190, .int a1] 0 0 I L (Pf L K) := by
  refine Con2.of (by decide +kernel) (by simp [Value.category]) (Nat.le_of_ble_eq_true rfl) (fun X hX hT => ?_)
  have hX : OK X D cX9_greatestIncome "TeaHouseModel" 6 := hX
  have hT : RT X l D (some .float) (P2 (Pf L K)) 2 0 0 := hT
  have hR := hT.room
  change J2 X D 6 0 0 I L 0 [.ref 190, .int a1, .retAddr 0, .retAddr 0, .retAddr 0, .retAddr 0] []
  rw [f_X9_greatestIncome] at h
  refine q_aload_n hX dX9_greatestIncome_0 rfl ?_
  refine q_iload_n hX dX9_greatestIncome_1 rfl ?_
  refine q_iconst hX dX9_greatestIncome_2 (v := (nI 1)) (by decide) ?_
  refine q_bipush hX dX9_greatestIncome_3 (v := (nI 14)) (by decide) ?_
  refine q_S_zp hX hR (w_X9_in  h) lk_X9_44 dX9_greatestIncome_5 rfl rfl (Nat.le_of_ble_eq_true rfl) (by omega) (by omega) (by omega) ?_
  intro x1 hrx1 h
  refine q_if_ne hX dX9_greatestIncome_8 (tgt := 15) (by decide) (fun q2 => ?_) (fun q2 => ?_)
  · replace h := ite_f q2 h
    refine q_aload_n hX dX9_greatestIncome_15 rfl ?_
    refine q_getR hX gf_X9_9 rfl dX9_greatestIncome_16 (at_of (n := 0) rfl) (b := 191) rfl ?_
    refine q_bipush hX dX9_greatestIncome_19 (v := (nI 13)) (by decide) ?_
    refine q_iald hX dX9_greatestIncome_21 (at_of (a := 191) (t := 22) (n := 1236) rfl) (j := 13) rfl (by decide) (by decide) ?_
    refine q_iload_n hX dX9_greatestIncome_22 rfl ?_
    refine q_icmp_ge hX dX9_greatestIncome_23 (tgt := 30) (by decide) (fun q3 => ?_) (fun q3 => ?_)
    · replace h := ite_t q3 h
      refine q_iconst hX dX9_greatestIncome_30 (v := (nI 0)) (by decide) ?_
      exact q_dr (w_X9_greatestIncome_b31 hX hT    _ _ (isC_n (by decide)) h) ⟨Or.inl rfl, Or.inl rfl, Or.inl rfl, Or.inl rfl, Or.inl rfl, Or.inl rfl, trivial⟩
    · replace h := ite_f q3 h
      refine q_iconst hX dX9_greatestIncome_26 (v := (nI 2)) (by decide) ?_
      refine q_goto hX dX9_greatestIncome_27 (tgt := 31) (by decide) ?_
      exact q_dr (w_X9_greatestIncome_b31 hX hT    _ _ (isC_n (by decide)) h) ⟨Or.inl rfl, Or.inl rfl, Or.inl rfl, Or.inl rfl, Or.inl rfl, Or.inl rfl, trivial⟩
  · replace h := ite_t q2 h
    refine q_iconst hX dX9_greatestIncome_11 (v := (nI 1)) (by decide) ?_
    refine q_goto hX dX9_greatestIncome_12 (tgt := 31) (by decide) ?_
    exact q_dr (w_X9_greatestIncome_b31 hX hT    _ _ (isC_n (by decide)) h) ⟨Or.inl rfl, Or.inl rfl, Or.inl rfl, Or.inl rfl, Or.inl rfl, Or.inl rfl, trivial⟩
set_option maxRecDepth 100000 in
set_option maxHeartbeats 4000000 in
theorem w_X9_greatestIncomeBySums {l : Launch} {D : DT} {L : LT} {a1 : Int32} {I : IT} {K : UInt32 → IT → Prop}  (h : f_X9_greatestIncomeBySums a1 I K) : Con2 l D m_X9_greatestIncomeBySums 3 [.ref 190, .int a1] 0 0 I L (Pf L K) := by
  refine Con2.of (by decide +kernel) (by simp [Value.category]) (Nat.le_of_ble_eq_true rfl) (fun X hX hT => ?_)
  have hX : OK X D cX9_greatestIncomeBySums "TeaHouseModel" 2 := hX
  have hT : RT X l D (some .float) (P2 (Pf L K)) 3 0 0 := hT
  have hR := hT.room
  change J2 X D 2 0 0 I L 0 [.ref 190, .int a1] []
  rw [f_X9_greatestIncomeBySums] at h
  refine q_aload_n hX dX9_greatestIncomeBySums_0 rfl ?_
  refine q_iload_n hX dX9_greatestIncomeBySums_1 rfl ?_
  refine q_V_f hX hR (w_X9_greatestIncome  h) lk_X9_168 (rc2_of (ci := 10) rfl rfl) dX9_greatestIncomeBySums_2 rfl rfl (Nat.le_of_ble_eq_true rfl) (by omega) (by omega) (by omega) ?_
  intro x1 I2 h
  exact q_fret hX hT dX9_greatestIncomeBySums_5 h
set_option maxRecDepth 100000 in
set_option maxHeartbeats 4000000 in
theorem w_X9_totalIncome {l : Launch} {D : DT} {L : LT}  {I : IT} {K : UInt32 → IT → Prop}  (h : f_X9_totalIncome  I K) : Con2 l D m_X9_totalIncome 2 [.ref 190] 0 0 I L (Pf L K) := by
  refine Con2.of (by decide +kernel) (by simp [Value.category]) (Nat.le_of_ble_eq_true rfl) (fun X hX hT => ?_)
  have hX : OK X D cX9_totalIncome "TeaHouseModel" 1 := hX
  have hT : RT X l D (some .float) (P2 (Pf L K)) 2 0 0 := hT
  have hR := hT.room
  change J2 X D 1 0 0 I L 0 [.ref 190] []
  rw [f_X9_totalIncome] at h
  refine q_aload_n hX dX9_totalIncome_0 rfl ?_
  refine q_bipush hX dX9_totalIncome_1 (v := (nI 17)) (by decide) ?_
  refine q_V_i hX hR (w_X9_told  h) lk_X9_146 (rc2_of (ci := 10) rfl rfl) dX9_totalIncome_3 rfl rfl (Nat.le_of_ble_eq_true rfl) (by omega) (by omega) (by omega) ?_
  intro x1 I2 h
  refine q_aload_n hX dX9_totalIncome_6 rfl ?_
  refine q_getR hX gf_X9_9 rfl dX9_totalIncome_7 (at_of (n := 0) rfl) (b := 191) rfl ?_
  refine q_bipush hX dX9_totalIncome_10 (v := (nI 18)) (by decide) ?_
  refine q_iald hX dX9_totalIncome_12 (at_of (a := 191) (t := 22) (n := 1236) rfl) (j := 18) rfl (by decide) (by decide) ?_
  refine q_iadd hX dX9_totalIncome_13 ?_
  refine q_S_fp hX hR (w_X9_eighths  h) lk_X9_128 dX9_totalIncome_14 rfl rfl (Nat.le_of_ble_eq_true rfl) (by omega) (by omega) (by omega) ?_
  intro x3 h
  exact q_fret hX hT dX9_totalIncome_17 h
set_option maxRecDepth 100000 in
set_option maxHeartbeats 4000000 in
theorem w_X9_totalIncomeBySales {l : Launch} {D : DT} {L : LT}  {I : IT} {K : UInt32 → IT → Prop}  (h : f_X9_totalIncomeBySales  I K) : Con2 l D m_X9_totalIncomeBySales 3 [.ref 190] 0 0 I L (Pf L K) := by
  refine Con2.of (by decide +kernel) (by simp [Value.category]) (Nat.le_of_ble_eq_true rfl) (fun X hX hT => ?_)
  have hX : OK X D cX9_totalIncomeBySales "TeaHouseModel" 1 := hX
  have hT : RT X l D (some .float) (P2 (Pf L K)) 3 0 0 := hT
  have hR := hT.room
  change J2 X D 1 0 0 I L 0 [.ref 190] []
  rw [f_X9_totalIncomeBySales] at h
  refine q_aload_n hX dX9_totalIncomeBySales_0 rfl ?_
  refine q_V_f hX hR (w_X9_totalIncome  h) lk_X9_171 (rc2_of (ci := 10) rfl rfl) dX9_totalIncomeBySales_1 rfl rfl (Nat.le_of_ble_eq_true rfl) (by omega) (by omega) (by omega) ?_
  intro x1 I2 h
  exact q_fret hX hT dX9_totalIncomeBySales_4 h
set_option maxRecDepth 100000 in
set_option maxHeartbeats 4000000 in
theorem w_X9_servedOrders {l : Launch} {D : DT} {L : LT}  {I : IT} {K : Int32 → IT → Prop}  (h : f_X9_servedOrders  I K) : Con2 l D m_X9_servedOrders 2 [.ref 190] 0 0 I L (Pi L K) := by
  refine Con2.of (by decide +kernel) (by simp [Value.category]) (Nat.le_of_ble_eq_true rfl) (fun X hX hT => ?_)
  have hX : OK X D cX9_servedOrders "TeaHouseModel" 1 := hX
  have hT : RT X l D (some .int) (P2 (Pi L K)) 2 0 0 := hT
  have hR := hT.room
  change J2 X D 1 0 0 I L 0 [.ref 190] []
  rw [f_X9_servedOrders] at h
  refine q_aload_n hX dX9_servedOrders_0 rfl ?_
  refine q_bipush hX dX9_servedOrders_1 (v := (nI 14)) (by decide) ?_
  refine q_V_i hX hR (w_X9_told  h) lk_X9_146 (rc2_of (ci := 10) rfl rfl) dX9_servedOrders_3 rfl rfl (Nat.le_of_ble_eq_true rfl) (by omega) (by omega) (by omega) ?_
  intro x1 I2 h
  exact q_iret hX hT dX9_servedOrders_6 h
set_option maxRecDepth 100000 in
set_option maxHeartbeats 4000000 in
theorem w_X9_whistlesHeard {l : Launch} {D : DT} {L : LT}  {I : IT} {K : Int32 → IT → Prop}  (h : f_X9_whistlesHeard  I K) : Con2 l D m_X9_whistlesHeard 2 [.ref 190] 0 0 I L (Pi L K) := by
  refine Con2.of (by decide +kernel) (by simp [Value.category]) (Nat.le_of_ble_eq_true rfl) (fun X hX hT => ?_)
  have hX : OK X D cX9_whistlesHeard "TeaHouseModel" 1 := hX
  have hT : RT X l D (some .int) (P2 (Pi L K)) 2 0 0 := hT
  have hR := hT.room
  change J2 X D 1 0 0 I L 0 [.ref 190] []
  rw [f_X9_whistlesHeard] at h
  refine q_aload_n hX dX9_whistlesHeard_0 rfl ?_
  refine q_bipush hX dX9_whistlesHeard_1 (v := (nI 15)) (by decide) ?_
  refine q_V_i hX hR (w_X9_told  h) lk_X9_146 (rc2_of (ci := 10) rfl rfl) dX9_whistlesHeard_3 rfl rfl (Nat.le_of_ble_eq_true rfl) (by omega) (by omega) (by omega) ?_
  intro x1 I2 h
  exact q_iret hX hT dX9_whistlesHeard_6 h
set_option maxRecDepth 100000 in
set_option maxHeartbeats 4000000 in
theorem w_X9_whistlesLost {l : Launch} {D : DT} {L : LT}  {I : IT} {K : Int32 → IT → Prop}  (h : f_X9_whistlesLost  I K) : Con2 l D m_X9_whistlesLost 2 [.ref 190] 0 0 I L (Pi L K) := by
  refine Con2.of (by decide +kernel) (by simp [Value.category]) (Nat.le_of_ble_eq_true rfl) (fun X hX hT => ?_)
  have hX : OK X D cX9_whistlesLost "TeaHouseModel" 1 := hX
  have hT : RT X l D (some .int) (P2 (Pi L K)) 2 0 0 := hT
  have hR := hT.room
  change J2 X D 1 0 0 I L 0 [.ref 190] []
  rw [f_X9_whistlesLost] at h
  refine q_aload_n hX dX9_whistlesLost_0 rfl ?_
  refine q_bipush hX dX9_whistlesLost_1 (v := (nI 16)) (by decide) ?_
  refine q_V_i hX hR (w_X9_told  h) lk_X9_146 (rc2_of (ci := 10) rfl rfl) dX9_whistlesLost_3 rfl rfl (Nat.le_of_ble_eq_true rfl) (by omega) (by omega) (by omega) ?_
  intro x1 I2 h
  exact q_iret hX hT dX9_whistlesLost_6 h
set_option maxRecDepth 100000 in
set_option maxHeartbeats 4000000 in
theorem w_X9_meanTemperature_b11 {X : XT} {D : DT} {l : Launch} {L : LT} {K : UInt64 → IT → Prop} {X41 : Int32 → Int32 → Int32 → IT → Prop} (hX : OK X D cX9_meanTemperature "TeaHouseModel" 4) (hT : RT X l D (some .double) (P2 (Pd L K)) 2 0 0)  (hx41 : ∀ (v1 : Int32) (v2 : Int32) (s1 : Int32) (I : IT), isZ s1 → isC s1 → X41 v1 v2 s1 I → J2 X D 4 0 0 I L 41 [.retAddr 0, .int v1, .int v2, .retAddr 0] [.int s1, .ref 190]) : ∀ (n : Nat), ∀ (v1 : Int32) (v2 : Int32) (v3 : Int32) (I : IT), f_X9_meanTemperature_b11 X41 K n v1 v2 v3 I → J2 X D 4 0 0 I L 11 [.ref 190, .int v1, .int v2, .int v3] [] := by
  have hR := hT.room
  intro n
  induction n with
  | zero => intro v1 v2 v3 I h; exact False.elim h
  | succ n ih =>
    intro v1 v2 v3 I h
    rw [f_X9_meanTemperature_b11] at h
    refine q_iload_n hX dX9_meanTemperature_11 rfl ?_
    refine q_iload_n hX dX9_meanTemperature_12 rfl ?_
    refine q_icmp_ge hX dX9_meanTemperature_13 (tgt := 31) (by decide) (fun q1 => ?_) (fun q1 => ?_)
    · replace h := ite_t q1 h
      refine q_aload_n hX dX9_meanTemperature_31 rfl ?_
      refine q_iload_n hX dX9_meanTemperature_32 rfl ?_
      refine q_if_le hX dX9_meanTemperature_33 (tgt := 40) (by decide) (fun q2 => ?_) (fun q2 => ?_)
      · replace h := ite_t q2 h
        refine q_iconst hX dX9_meanTemperature_40 (v := (nI 0)) (by decide) ?_
        exact q_dr (hx41 _ _ _ _ (Or.inl rfl) (isC_n (by decide)) h) ⟨Or.inr rfl, Or.inl rfl, Or.inl rfl, Or.inr rfl, trivial⟩
      · replace h := ite_f q2 h
        refine q_iconst hX dX9_meanTemperature_36 (v := (nI 1)) (by decide) ?_
        refine q_goto hX dX9_meanTemperature_37 (tgt := 41) (by decide) ?_
        exact q_dr (hx41 _ _ _ _ (Or.inr rfl) (isC_n (by decide)) h) ⟨Or.inr rfl, Or.inl rfl, Or.inl rfl, Or.inr rfl, trivial⟩
    · replace h := ite_f q1 h
      refine q_iload_n hX dX9_meanTemperature_16 rfl ?_
      refine q_aload_n hX dX9_meanTemperature_17 rfl ?_
      refine q_iload_n hX dX9_meanTemperature_18 rfl ?_
      refine q_iconst hX dX9_meanTemperature_19 (v := (nI 2)) (by decide) ?_
      refine q_V_ip hX hR (w_X9_k  h) lk_X9_60 (rc2_of (ci := 10) rfl rfl) dX9_meanTemperature_20 rfl rfl (Nat.le_of_ble_eq_true rfl) (by omega) (by omega) (by omega) ?_
      intro x3 h
      refine q_iadd hX dX9_meanTemperature_23 ?_
      replace h := bnd_e h
      refine q_istore_n hX dX9_meanTemperature_24 (by decide) (ls' := [_, _, _, _]) rfl ?_
      replace h := bnd_e h
      refine q_iinc hX dX9_meanTemperature_25 (by decide) rfl (v := _ + nI 1) (ls' := [_, _, _, _]) rfl rfl ?_
      refine q_goto hX dX9_meanTemperature_28 (tgt := 11) (by decide) ?_
      exact q_dr (ih _ _ _ _  h) ⟨Or.inl rfl, Or.inl rfl, Or.inl rfl, Or.inl rfl, trivial⟩
set_option maxRecDepth 100000 in
set_option maxHeartbeats 4000000 in
theorem w_X9_meanTemperature_b41 {X : XT} {D : DT} {l : Launch} {L : LT} {K : UInt64 → IT → Prop} (hX : OK X D cX9_meanTemperature "TeaHouseModel" 4) (hT : RT X l D (some .double) (P2 (Pd L K)) 2 0 0)   : ∀ (v1 : Int32) (v2 : Int32) (s1 : Int32) (I : IT), isZ s1 → isC s1 → f_X9_meanTemperature_b41 K v1 v2 s1 I → J2 X D 4 0 0 I L 41 [.retAddr 0, .int v1, .int v2, .retAddr 0] [.int s1, .ref 190] := by
  have hR := hT.room
  intro v1 v2 s1 I hzs1 hcs1 h
  rw [f_X9_meanTemperature_b41] at h
  refine q_V_z hX hR (w_X9_isFine hzs1 h) lk_X9_149 (rc2_of (ci := 10) rfl rfl) dX9_meanTemperature_41 rfl rfl (Nat.le_of_ble_eq_true rfl) (by omega) (by omega) (by omega) ?_
  intro x1 I2 hrx1 h
  refine q_if_eq hX dX9_meanTemperature_44 (tgt := 59) (by decide) (fun q3 => ?_) (fun q3 => ?_)
  · replace h := ite_t q3 h
    refine q_dconst0 hX dX9_meanTemperature_59 ?_
    exact q_dret hX hT dX9_meanTemperature_60 h
  · replace h := ite_f q3 h
    refine q_iload_n hX dX9_meanTemperature_47 rfl ?_
    refine q_i2d hX dX9_meanTemperature_48 ?_
    refine q_ldc2 hX kd_dbl2 dX9_meanTemperature_49 ?_
    obtain ⟨z4, h⟩ := h
    refine q_ddiv hX dX9_meanTemperature_52 z4 ?_
    refine q_iload_n hX dX9_meanTemperature_53 rfl ?_
    refine q_i2d hX dX9_meanTemperature_54 ?_
    obtain ⟨z5, h⟩ := h
    refine q_ddiv hX dX9_meanTemperature_55 z5 ?_
    refine q_goto hX dX9_meanTemperature_56 (tgt := 60) (by decide) ?_
    exact q_dret hX hT dX9_meanTemperature_60 h
set_option maxRecDepth 100000 in
set_option maxHeartbeats 4000000 in
theorem w_X9_meanTemperature {l : Launch} {D : DT} {L : LT}  {I : IT} {K : UInt64 → IT → Prop}  (h : f_X9_meanTemperature  I K) : Con2 l D m_X9_meanTemperature 2 [.ref 190] 0 0 I L (Pd L K) := by
  refine Con2.of (by decide +kernel) (by simp [Value.category]) (Nat.le_of_ble_eq_true rfl) (fun X hX hT => ?_)
  have hX : OK X D cX9_meanTemperature "TeaHouseModel" 4 := hX
  have hT : RT X l D (some .double) (P2 (Pd L K)) 2 0 0 := hT
  have hR := hT.room
  change J2 X D 4 0 0 I L 0 [.ref 190, .retAddr 0, .retAddr 0, .retAddr 0] []
  rw [f_X9_meanTemperature] at h
  refine q_aload_n hX dX9_meanTemperature_0 rfl ?_
  refine q_getR hX gf_X9_9 rfl dX9_meanTemperature_1 (at_of (n := 0) rfl) (b := 191) rfl ?_
  refine q_iconst hX dX9_meanTemperature_4 (v := (nI 1)) (by decide) ?_
  refine q_iald hX dX9_meanTemperature_5 (at_of (a := 191) (t := 22) (n := 1236) rfl) (j := 1) rfl (by decide) (by decide) ?_
  replace h := bnd_e h
  refine q_istore_n hX dX9_meanTemperature_6 (by decide) (ls' := [_, _, _, _]) rfl ?_
  refine q_iconst hX dX9_meanTemperature_7 (v := (nI 0)) (by decide) ?_
  refine q_istore_n hX dX9_meanTemperature_8 (by decide) (ls' := [_, _, _, _]) rfl ?_
  refine q_iconst hX dX9_meanTemperature_9 (v := (nI 0)) (by decide) ?_
  refine q_istore_n hX dX9_meanTemperature_10 (by decide) (ls' := [_, _, _, _]) rfl ?_
  exact q_dr (w_X9_meanTemperature_b11 hX hT  (fun _ _ _ _ hzs1 hcs1 h => w_X9_meanTemperature_b41 hX hT    _ _ _ _ hzs1 hcs1 h) _  _ _ _ _  h) ⟨Or.inl rfl, Or.inl rfl, Or.inl rfl, Or.inl rfl, trivial⟩
set_option maxRecDepth 100000 in
set_option maxHeartbeats 4000000 in
theorem w_X9_lostShare_b26 {X : XT} {D : DT} {l : Launch} {L : LT} {K : UInt32 → IT → Prop} (hX : OK X D cX9_lostShare "TeaHouseModel" 2) (hT : RT X l D (some .float) (P2 (Pf L K)) 2 0 0)   : ∀ (v1 : Int32) (s1 : Int32) (I : IT), isZ s1 → isC s1 → f_X9_lostShare_b26 K v1 s1 I → J2 X D 2 0 0 I L 26 [.ref 190, .int v1] [.int s1, .ref 190] := by
  have hR := hT.room
  intro v1 s1 I hzs1 hcs1 h
  rw [f_X9_lostShare_b26] at h
  refine q_V_z hX hR (w_X9_isFine hzs1 h) lk_X9_149 (rc2_of (ci := 10) rfl rfl) dX9_lostShare_26 rfl rfl (Nat.le_of_ble_eq_true rfl) (by omega) (by omega) (by omega) ?_
  intro x1 I2 hrx1 h
  refine q_if_eq hX dX9_lostShare_29 (tgt := 46) (by decide) (fun q3 => ?_) (fun q3 => ?_)
  · replace h := ite_t q3 h
    refine q_fconst0 hX dX9_lostShare_46 ?_
    exact q_fret hX hT dX9_lostShare_47 h
  · replace h := ite_f q3 h
    refine q_aload_n hX dX9_lostShare_32 rfl ?_
    refine q_getR hX gf_X9_9 rfl dX9_lostShare_33 (at_of (n := 0) rfl) (b := 191) rfl ?_
    refine q_bipush hX dX9_lostShare_36 (v := (nI 16)) (by decide) ?_
    refine q_iald hX dX9_lostShare_38 (at_of (a := 191) (t := 22) (n := 1236) rfl) (j := 16) rfl (by decide) (by decide) ?_
    refine q_i2f hX dX9_lostShare_39 ?_
    refine q_iload_n hX dX9_lostShare_40 rfl ?_
    refine q_i2f hX dX9_lostShare_41 ?_
    obtain ⟨z4, h⟩ := h
    refine q_fdiv hX dX9_lostShare_42 z4 ?_
    refine q_goto hX dX9_lostShare_43 (tgt := 47) (by decide) ?_
    exact q_fret hX hT dX9_lostShare_47 h
set_option maxRecDepth 100000 in
set_option maxHeartbeats 4000000 in
theorem w_X9_lostShare {l : Launch} {D : DT} {L : LT}  {I : IT} {K : UInt32 → IT → Prop}  (h : f_X9_lostShare  I K) : Con2 l D m_X9_lostShare 2 [.ref 190] 0 0 I L (Pf L K) := by
  refine Con2.of (by decide +kernel) (by simp [Value.category]) (Nat.le_of_ble_eq_true rfl) (fun X hX hT => ?_)
  have hX : OK X D cX9_lostShare "TeaHouseModel" 2 := hX
  have hT : RT X l D (some .float) (P2 (Pf L K)) 2 0 0 := hT
  have hR := hT.room
  change J2 X D 2 0 0 I L 0 [.ref 190, .retAddr 0] []
  rw [f_X9_lostShare] at h
  refine q_aload_n hX dX9_lostShare_0 rfl ?_
  refine q_getR hX gf_X9_9 rfl dX9_lostShare_1 (at_of (n := 0) rfl) (b := 191) rfl ?_
  refine q_bipush hX dX9_lostShare_4 (v := (nI 15)) (by decide) ?_
  refine q_iald hX dX9_lostShare_6 (at_of (a := 191) (t := 22) (n := 1236) rfl) (j := 15) rfl (by decide) (by decide) ?_
  refine q_aload_n hX dX9_lostShare_7 rfl ?_
  refine q_getR hX gf_X9_9 rfl dX9_lostShare_8 (at_of (n := 0) rfl) (b := 191) rfl ?_
  refine q_bipush hX dX9_lostShare_11 (v := (nI 16)) (by decide) ?_
  refine q_iald hX dX9_lostShare_13 (at_of (a := 191) (t := 22) (n := 1236) rfl) (j := 16) rfl (by decide) (by decide) ?_
  refine q_iadd hX dX9_lostShare_14 ?_
  replace h := bnd_e h
  refine q_istore_n hX dX9_lostShare_15 (by decide) (ls' := [_, _]) rfl ?_
  refine q_aload_n hX dX9_lostShare_16 rfl ?_
  refine q_iload_n hX dX9_lostShare_17 rfl ?_
  refine q_if_le hX dX9_lostShare_18 (tgt := 25) (by decide) (fun q2 => ?_) (fun q2 => ?_)
  · replace h := ite_t q2 h
    refine q_iconst hX dX9_lostShare_25 (v := (nI 0)) (by decide) ?_
    exact q_dr (w_X9_lostShare_b26 hX hT    _ _ _ (Or.inl rfl) (isC_n (by decide)) h) ⟨Or.inl rfl, Or.inl rfl, trivial⟩
  · replace h := ite_f q2 h
    refine q_iconst hX dX9_lostShare_21 (v := (nI 1)) (by decide) ?_
    refine q_goto hX dX9_lostShare_22 (tgt := 26) (by decide) ?_
    exact q_dr (w_X9_lostShare_b26 hX hT    _ _ _ (Or.inr rfl) (isC_n (by decide)) h) ⟨Or.inl rfl, Or.inl rfl, trivial⟩
set_option maxRecDepth 100000 in
set_option maxHeartbeats 4000000 in
theorem w_X9_isBalanced {l : Launch} {D : DT} {L : LT}  {I : IT} {K : Int32 → IT → Prop}  (h : f_X9_isBalanced  I K) : Con2 l D m_X9_isBalanced 1 [.ref 190] 0 0 I L (Pz L K) := by
  refine Con2.of (by decide +kernel) (by simp [Value.category]) (Nat.le_of_ble_eq_true rfl) (fun X hX hT => ?_)
  have hX : OK X D cX9_isBalanced "TeaHouseModel" 1 := hX
  have hT : RT X l D (some .boolean) (P2 (Pz L K)) 1 0 0 := hT
  have hR := hT.room
  change J2 X D 1 0 0 I L 0 [.ref 190] []
  rw [f_X9_isBalanced] at h
  refine q_aload_n hX dX9_isBalanced_0 rfl ?_
  refine q_iconst hX dX9_isBalanced_1 (v := (nI 0)) (by decide) ?_
  replace h := wr_e h
  refine q_putI hX pf_X9_30 rfl dX9_isBalanced_2 (at_of (n := 0) rfl) rfl rfl ?_
  generalize up2 _ _ _ _ = I1 at h ⊢
  refine q_iconst hX dX9_isBalanced_5 (v := (nI 1)) (by decide) ?_
  exact q_zret hX hT dX9_isBalanced_6 (Or.inr rfl) h
set_option maxRecDepth 100000 in
set_option maxHeartbeats 4000000 in
theorem w_X9_writes {l : Launch} {D : DT} {L : LT} {a1 : Int32} {I : IT} {K : IT → Prop}  (h : f_X9_writes a1 I K) : Con2 l D m_X9_writes 1 [.ref 190, .int a1] 0 0 I L (Pv L K) := by
  refine Con2.of (by decide +kernel) (by simp [Value.category]) (Nat.le_of_ble_eq_true rfl) (fun X hX hT => ?_)
  have hX : OK X D cX9_writes "TeaHouseModel" 2 := hX
  have hT : RT X l D none (P2 (Pv L K)) 1 0 0 := hT
  have hR := hT.room
  change J2 X D 2 0 0 I L 0 [.ref 190, .int a1] []
  rw [f_X9_writes] at h
  refine q_aload_n hX dX9_writes_0 rfl ?_
  refine q_getR hX gf_X9_13 rfl dX9_writes_1 (at_of (n := 0) rfl) (b := 192) rfl ?_
  refine q_aload_n hX dX9_writes_4 rfl ?_
  refine q_getI hX gf_X9_177 rfl dX9_writes_5 (at_of (n := 0) rfl) ?_
  refine q_iload_n hX dX9_writes_8 rfl ?_
  refine q_i2c hX dX9_writes_9 ?_
  obtain ⟨z1, h⟩ := h
  replace h := wr_e h
  refine q_cast hX dX9_writes_10 (at_of (a := 192) (t := 21) (n := 240) rfl) (inr_e z1) (inr_lt z1) (by decide) (narv_c (isC_i2c _)) ?_
  generalize up2 _ _ _ _ = I2 at h ⊢
  refine q_aload_n hX dX9_writes_11 rfl ?_
  refine q_dup hX dX9_writes_12 rfl ?_
  refine q_getI hX gf_X9_177 rfl dX9_writes_13 (at_of (n := 0) rfl) ?_
  refine q_iconst hX dX9_writes_16 (v := (nI 1)) (by decide) ?_
  refine q_iadd hX dX9_writes_17 ?_
  replace h := wr_e h
  refine q_putI hX pf_X9_177 rfl dX9_writes_18 (at_of (n := 0) rfl) rfl rfl ?_
  generalize up2 _ _ _ _ = I3 at h ⊢
  exact q_vret hX hT dX9_writes_21 h
set_option maxRecDepth 100000 in
set_option maxHeartbeats 4000000 in
theorem w_X9_writesNumber_b14 {dd : Nat} (hdd : 2 ≤ dd) {X : XT} {D : DT} {l : Launch} {L : LT} {a1 : Int32} {K : IT → Prop} (hX : OK X D cX9_writesNumber "TeaHouseModel" 2) (hT : RT X l D none (P2 (Pv L K)) dd 0 0)   : ∀ (I : IT), f_X9_writesNumber_b14 a1 K I → J2 X D 2 0 0 I L 14 [.ref 190, .int a1] [] := by
  have hR := hT.room
  intro I h
  rw [f_X9_writesNumber_b14] at h
  refine q_aload_n hX dX9_writesNumber_14 rfl ?_
  refine q_bipush hX dX9_writesNumber_15 (v := (nI 48)) (by decide) ?_
  refine q_iload_n hX dX9_writesNumber_17 rfl ?_
  refine q_bipush hX dX9_writesNumber_18 (v := (nI 10)) (by decide) ?_
  refine q_irem hX dX9_writesNumber_20 (by decide) ?_
  refine q_iadd hX dX9_writesNumber_21 ?_
  refine q_V_v hX hR (w_X9_writes  h) lk_X9_183 (rc2_of (ci := 10) rfl rfl) dX9_writesNumber_22 rfl rfl (Nat.le_of_ble_eq_true rfl) (by omega) (by omega) (by omega) ?_
  intro I1 h
  exact q_vret hX hT dX9_writesNumber_25 h
set_option maxRecDepth 100000 in
set_option maxHeartbeats 4000000 in
theorem w_X9_writesNumber_r {l : Launch} {D : DT} {L : LT} : ∀ (n : Nat) {a1 : Int32} {I : IT} {K : IT → Prop}, f_X9_writesNumber_r n a1 I K → Con2 l D m_X9_writesNumber (n + 2) [.ref 190, .int a1] 0 0 I L (Pv L K) := by
  intro n
  induction n with
  | zero => intro a1 I K h; exact False.elim h
  | succ n ih =>
    intro a1 I K h
    refine Con2.of (by decide +kernel) (by simp [Value.category]) (Nat.le_of_ble_eq_true rfl) (fun X hX hT => ?_)
    have hX : OK X D cX9_writesNumber "TeaHouseModel" 2 := hX
    have hT : RT X l D none (P2 (Pv L K)) (n + 3) 0 0 := hT
    have hR := hT.room
    change J2 X D 2 0 0 I L 0 [.ref 190, .int a1] []
    rw [f_X9_writesNumber_r] at h
    refine q_iload_n hX dX9_writesNumber_0 rfl ?_
    refine q_bipush hX dX9_writesNumber_1 (v := (nI 9)) (by decide) ?_
    refine q_icmp_le hX dX9_writesNumber_3 (tgt := 14) (by decide) (fun q1 => ?_) (fun q1 => ?_)
    · replace h := ite_t q1 h
      exact q_dr (w_X9_writesNumber_b14 (by omega) hX hT    _  h) ⟨Or.inl rfl, Or.inl rfl, trivial⟩
    · replace h := ite_f q1 h
      refine q_aload_n hX dX9_writesNumber_6 rfl ?_
      refine q_iload_n hX dX9_writesNumber_7 rfl ?_
      refine q_bipush hX dX9_writesNumber_8 (v := (nI 10)) (by decide) ?_
      refine q_idiv hX dX9_writesNumber_10 (by decide) ?_
      refine q_V_v hX hR (ih h) lk_X9_180 (rc2_of (ci := 10) rfl rfl) dX9_writesNumber_11 rfl rfl (Nat.le_of_ble_eq_true rfl) (by omega) (by omega) (by omega) ?_
      intro I2 h
      exact q_dr (w_X9_writesNumber_b14 (by omega) hX hT    _  h) ⟨Or.inl rfl, Or.inl rfl, trivial⟩
theorem w_X9_writesNumber {l : Launch} {D : DT} {L : LT} {a1 : Int32} {I : IT} {K : IT → Prop} (h : f_X9_writesNumber a1 I K) : Con2 l D m_X9_writesNumber 14 [.ref 190, .int a1] 0 0 I L (Pv L K) := w_X9_writesNumber_r 12 h
set_option maxRecDepth 100000 in
set_option maxHeartbeats 4000000 in
theorem w_X9_formatKettle_b115 {X : XT} {D : DT} {l : Launch} {L : LT} {a1 : Int32} {K : Int32 → IT → Prop} (hX : OK X D cX9_formatKettle "TeaHouseModel" 2) (hT : RT X l D (some .int) (P2 (Pi L K)) 15 0 0)   : ∀ (I : IT), f_X9_formatKettle_b115 a1 K I → J2 X D 2 0 0 I L 115 [.ref 190, .int a1] [] := by
  have hR := hT.room
  intro I h
  rw [f_X9_formatKettle_b115] at h
  refine q_aload_n hX dX9_formatKettle_115 rfl ?_
  refine q_iload_n hX dX9_formatKettle_116 rfl ?_
  refine q_iconst hX dX9_formatKettle_117 (v := (nI 4)) (by decide) ?_
  refine q_V_ip hX hR (w_X9_k  h) lk_X9_60 (rc2_of (ci := 10) rfl rfl) dX9_formatKettle_118 rfl rfl (Nat.le_of_ble_eq_true rfl) (by omega) (by omega) (by omega) ?_
  intro x1 h
  refine q_iconst hX dX9_formatKettle_121 (v := (nI 1)) (by decide) ?_
  refine q_icmp_ne hX dX9_formatKettle_122 (tgt := 131) (by decide) (fun q2 => ?_) (fun q2 => ?_)
  · replace h := ite_f q2 h
    refine q_aload_n hX dX9_formatKettle_131 rfl ?_
    refine q_getI hX gf_X9_177 rfl dX9_formatKettle_132 (at_of (n := 0) rfl) ?_
    exact q_iret hX hT dX9_formatKettle_135 h
  · replace h := ite_t q2 h
    refine q_aload_n hX dX9_formatKettle_125 rfl ?_
    refine q_bipush hX dX9_formatKettle_126 (v := (nI 33)) (by decide) ?_
    refine q_V_v hX hR (w_X9_writes  h) lk_X9_183 (rc2_of (ci := 10) rfl rfl) dX9_formatKettle_128 rfl rfl (Nat.le_of_ble_eq_true rfl) (by omega) (by omega) (by omega) ?_
    intro I3 h
    refine q_aload_n hX dX9_formatKettle_131 rfl ?_
    refine q_getI hX gf_X9_177 rfl dX9_formatKettle_132 (at_of (n := 0) rfl) ?_
    exact q_iret hX hT dX9_formatKettle_135 h
set_option maxRecDepth 100000 in
set_option maxHeartbeats 4000000 in
theorem w_X9_formatKettle {l : Launch} {D : DT} {L : LT} {a1 : Int32} {I : IT} {K : Int32 → IT → Prop}  (h : f_X9_formatKettle a1 I K) : Con2 l D m_X9_formatKettle 15 [.ref 190, .int a1] 0 0 I L (Pi L K) := by
  refine Con2.of (by decide +kernel) (by simp [Value.category]) (Nat.le_of_ble_eq_true rfl) (fun X hX hT => ?_)
  have hX : OK X D cX9_formatKettle "TeaHouseModel" 2 := hX
  have hT : RT X l D (some .int) (P2 (Pi L K)) 15 0 0 := hT
  have hR := hT.room
  change J2 X D 2 0 0 I L 0 [.ref 190, .int a1] []
  rw [f_X9_formatKettle] at h
  refine q_aload_n hX dX9_formatKettle_0 rfl ?_
  refine q_aload_n hX dX9_formatKettle_1 rfl ?_
  refine q_iload_n hX dX9_formatKettle_2 rfl ?_
  refine q_V_zp hX hR (w_X9_isKettle  h) lk_X9_77 (rc2_of (ci := 10) rfl rfl) dX9_formatKettle_3 rfl rfl (Nat.le_of_ble_eq_true rfl) (by omega) (by omega) (by omega) ?_
  intro x1 hrx1 h
  refine q_V_z hX hR (w_X9_isFine hrx1 h) lk_X9_149 (rc2_of (ci := 10) rfl rfl) dX9_formatKettle_6 rfl rfl (Nat.le_of_ble_eq_true rfl) (by omega) (by omega) (by omega) ?_
  intro x2 I3 hrx2 h
  refine q_if_ne hX dX9_formatKettle_9 (tgt := 14) (by decide) (fun q4 => ?_) (fun q4 => ?_)
  · replace h := ite_f q4 h
    refine q_aload_n hX dX9_formatKettle_14 rfl ?_
    refine q_iconst hX dX9_formatKettle_15 (v := (nI 0)) (by decide) ?_
    replace h := wr_e h
    refine q_putI hX pf_X9_177 rfl dX9_formatKettle_16 (at_of (n := 0) rfl) rfl rfl ?_
    generalize up2 _ _ _ _ = I5 at h ⊢
    refine q_aload_n hX dX9_formatKettle_19 rfl ?_
    refine q_bipush hX dX9_formatKettle_20 (v := (nI 75)) (by decide) ?_
    refine q_V_v hX hR (w_X9_writes  h) lk_X9_183 (rc2_of (ci := 10) rfl rfl) dX9_formatKettle_22 rfl rfl (Nat.le_of_ble_eq_true rfl) (by omega) (by omega) (by omega) ?_
    intro I6 h
    refine q_aload_n hX dX9_formatKettle_25 rfl ?_
    refine q_iload_n hX dX9_formatKettle_26 rfl ?_
    refine q_V_v hX hR (w_X9_writesNumber  h) lk_X9_180 (rc2_of (ci := 10) rfl rfl) dX9_formatKettle_27 rfl rfl (Nat.le_of_ble_eq_true rfl) (by omega) (by omega) (by omega) ?_
    intro I7 h
    refine q_aload_n hX dX9_formatKettle_30 rfl ?_
    refine q_bipush hX dX9_formatKettle_31 (v := (nI 32)) (by decide) ?_
    refine q_V_v hX hR (w_X9_writes  h) lk_X9_183 (rc2_of (ci := 10) rfl rfl) dX9_formatKettle_33 rfl rfl (Nat.le_of_ble_eq_true rfl) (by omega) (by omega) (by omega) ?_
    intro I8 h
    refine q_aload_n hX dX9_formatKettle_36 rfl ?_
    refine q_aload_n hX dX9_formatKettle_37 rfl ?_
    refine q_iload_n hX dX9_formatKettle_38 rfl ?_
    refine q_iconst hX dX9_formatKettle_39 (v := (nI 1)) (by decide) ?_
    refine q_V_ip hX hR (w_X9_k  h) lk_X9_60 (rc2_of (ci := 10) rfl rfl) dX9_formatKettle_40 rfl rfl (Nat.le_of_ble_eq_true rfl) (by omega) (by omega) (by omega) ?_
    intro x9 h
    refine q_V_v hX hR (w_X9_writesNumber  h) lk_X9_180 (rc2_of (ci := 10) rfl rfl) dX9_formatKettle_43 rfl rfl (Nat.le_of_ble_eq_true rfl) (by omega) (by omega) (by omega) ?_
    intro I10 h
    refine q_aload_n hX dX9_formatKettle_46 rfl ?_
    refine q_bipush hX dX9_formatKettle_47 (v := (nI 47)) (by decide) ?_
    refine q_V_v hX hR (w_X9_writes  h) lk_X9_183 (rc2_of (ci := 10) rfl rfl) dX9_formatKettle_49 rfl rfl (Nat.le_of_ble_eq_true rfl) (by omega) (by omega) (by omega) ?_
    intro I11 h
    refine q_aload_n hX dX9_formatKettle_52 rfl ?_
    refine q_aload_n hX dX9_formatKettle_53 rfl ?_
    refine q_iload_n hX dX9_formatKettle_54 rfl ?_
    refine q_iconst hX dX9_formatKettle_55 (v := (nI 0)) (by decide) ?_
    refine q_V_ip hX hR (w_X9_k  h) lk_X9_60 (rc2_of (ci := 10) rfl rfl) dX9_formatKettle_56 rfl rfl (Nat.le_of_ble_eq_true rfl) (by omega) (by omega) (by omega) ?_
    intro x12 h
    refine q_V_v hX hR (w_X9_writesNumber  h) lk_X9_180 (rc2_of (ci := 10) rfl rfl) dX9_formatKettle_59 rfl rfl (Nat.le_of_ble_eq_true rfl) (by omega) (by omega) (by omega) ?_
    intro I13 h
    refine q_aload_n hX dX9_formatKettle_62 rfl ?_
    refine q_bipush hX dX9_formatKettle_63 (v := (nI 32)) (by decide) ?_
    refine q_V_v hX hR (w_X9_writes  h) lk_X9_183 (rc2_of (ci := 10) rfl rfl) dX9_formatKettle_65 rfl rfl (Nat.le_of_ble_eq_true rfl) (by omega) (by omega) (by omega) ?_
    intro I14 h
    refine q_aload_n hX dX9_formatKettle_68 rfl ?_
    refine q_aload_n hX dX9_formatKettle_69 rfl ?_
    refine q_iload_n hX dX9_formatKettle_70 rfl ?_
    refine q_iconst hX dX9_formatKettle_71 (v := (nI 2)) (by decide) ?_
    refine q_V_ip hX hR (w_X9_k  h) lk_X9_60 (rc2_of (ci := 10) rfl rfl) dX9_formatKettle_72 rfl rfl (Nat.le_of_ble_eq_true rfl) (by omega) (by omega) (by omega) ?_
    intro x15 h
    refine q_V_v hX hR (w_X9_writesNumber  h) lk_X9_180 (rc2_of (ci := 10) rfl rfl) dX9_formatKettle_75 rfl rfl (Nat.le_of_ble_eq_true rfl) (by omega) (by omega) (by omega) ?_
    intro I16 h
    refine q_aload_n hX dX9_formatKettle_78 rfl ?_
    refine q_bipush hX dX9_formatKettle_79 (v := (nI 104)) (by decide) ?_
    refine q_V_v hX hR (w_X9_writes  h) lk_X9_183 (rc2_of (ci := 10) rfl rfl) dX9_formatKettle_81 rfl rfl (Nat.le_of_ble_eq_true rfl) (by omega) (by omega) (by omega) ?_
    intro I17 h
    refine q_aload_n hX dX9_formatKettle_84 rfl ?_
    refine q_iload_n hX dX9_formatKettle_85 rfl ?_
    refine q_iconst hX dX9_formatKettle_86 (v := (nI 3)) (by decide) ?_
    refine q_V_ip hX hR (w_X9_k  h) lk_X9_60 (rc2_of (ci := 10) rfl rfl) dX9_formatKettle_87 rfl rfl (Nat.le_of_ble_eq_true rfl) (by omega) (by omega) (by omega) ?_
    intro x18 h
    refine q_if_le hX dX9_formatKettle_90 (tgt := 115) (by decide) (fun q19 => ?_) (fun q19 => ?_)
    · replace h := ite_t q19 h
      exact q_dr (w_X9_formatKettle_b115 hX hT    _  h) ⟨Or.inl rfl, Or.inl rfl, trivial⟩
    · replace h := ite_f q19 h
      refine q_aload_n hX dX9_formatKettle_93 rfl ?_
      refine q_bipush hX dX9_formatKettle_94 (v := (nI 32)) (by decide) ?_
      refine q_V_v hX hR (w_X9_writes  h) lk_X9_183 (rc2_of (ci := 10) rfl rfl) dX9_formatKettle_96 rfl rfl (Nat.le_of_ble_eq_true rfl) (by omega) (by omega) (by omega) ?_
      intro I20 h
      refine q_aload_n hX dX9_formatKettle_99 rfl ?_
      refine q_bipush hX dX9_formatKettle_100 (v := (nI 98)) (by decide) ?_
      refine q_V_v hX hR (w_X9_writes  h) lk_X9_183 (rc2_of (ci := 10) rfl rfl) dX9_formatKettle_102 rfl rfl (Nat.le_of_ble_eq_true rfl) (by omega) (by omega) (by omega) ?_
      intro I21 h
      refine q_aload_n hX dX9_formatKettle_105 rfl ?_
      refine q_aload_n hX dX9_formatKettle_106 rfl ?_
      refine q_iload_n hX dX9_formatKettle_107 rfl ?_
      refine q_iconst hX dX9_formatKettle_108 (v := (nI 3)) (by decide) ?_
      refine q_V_ip hX hR (w_X9_k  h) lk_X9_60 (rc2_of (ci := 10) rfl rfl) dX9_formatKettle_109 rfl rfl (Nat.le_of_ble_eq_true rfl) (by omega) (by omega) (by omega) ?_
      intro x22 h
      refine q_V_v hX hR (w_X9_writesNumber  h) lk_X9_180 (rc2_of (ci := 10) rfl rfl) dX9_formatKettle_112 rfl rfl (Nat.le_of_ble_eq_true rfl) (by omega) (by omega) (by omega) ?_
      intro I23 h
      exact q_dr (w_X9_formatKettle_b115 hX hT    _  h) ⟨Or.inl rfl, Or.inl rfl, trivial⟩
  · replace h := ite_t q4 h
    refine q_iconst hX dX9_formatKettle_12 (v := (nI 0)) (by decide) ?_
    exact q_iret hX hT dX9_formatKettle_13 h
set_option maxRecDepth 100000 in
set_option maxHeartbeats 4000000 in
theorem w_X9_writesBehind {l : Launch} {D : DT} {L : LT} {a1 : Int32} {a2 : Int32} {I : IT} {K : IT → Prop}  (h : f_X9_writesBehind a1 a2 I K) : Con2 l D m_X9_writesBehind 15 [.ref 190, .int a1, .int a2] 0 0 I L (Pv L K) := by
  refine Con2.of (by decide +kernel) (by simp [Value.category]) (Nat.le_of_ble_eq_true rfl) (fun X hX hT => ?_)
  have hX : OK X D cX9_writesBehind "TeaHouseModel" 3 := hX
  have hT : RT X l D none (P2 (Pv L K)) 15 0 0 := hT
  have hR := hT.room
  change J2 X D 3 0 0 I L 0 [.ref 190, .int a1, .int a2] []
  rw [f_X9_writesBehind] at h
  refine q_aload_n hX dX9_writesBehind_0 rfl ?_
  refine q_iload_n hX dX9_writesBehind_1 rfl ?_
  refine q_V_v hX hR (w_X9_writes  h) lk_X9_183 (rc2_of (ci := 10) rfl rfl) dX9_writesBehind_2 rfl rfl (Nat.le_of_ble_eq_true rfl) (by omega) (by omega) (by omega) ?_
  intro I1 h
  refine q_aload_n hX dX9_writesBehind_5 rfl ?_
  refine q_iload_n hX dX9_writesBehind_6 rfl ?_
  refine q_V_v hX hR (w_X9_writesNumber  h) lk_X9_180 (rc2_of (ci := 10) rfl rfl) dX9_writesBehind_7 rfl rfl (Nat.le_of_ble_eq_true rfl) (by omega) (by omega) (by omega) ?_
  intro I2 h
  exact q_vret hX hT dX9_writesBehind_10 h
set_option maxRecDepth 100000 in
set_option maxHeartbeats 4000000 in
theorem w_X9_formatOrder_b16 {X : XT} {D : DT} {l : Launch} {L : LT} {a1 : Int32} {K : Int32 → IT → Prop} (hX : OK X D cX9_formatOrder "TeaHouseModel" 3) (hT : RT X l D (some .int) (P2 (Pi L K)) 16 0 0)   : ∀ (v2 : Int32) (s1 : Int32) (I : IT), isZ s1 → isC s1 → f_X9_formatOrder_b16 a1 K v2 s1 I → J2 X D 3 0 0 I L 16 [.ref 190, .retAddr 0, .int v2] [.int s1, .ref 190] := by
  have hR := hT.room
  intro v2 s1 I hzs1 hcs1 h
  rw [f_X9_formatOrder_b16] at h
  refine q_V_z hX hR (w_X9_isFine hzs1 h) lk_X9_149 (rc2_of (ci := 10) rfl rfl) dX9_formatOrder_16 rfl rfl (Nat.le_of_ble_eq_true rfl) (by omega) (by omega) (by omega) ?_
  intro x1 I2 hrx1 h
  refine q_if_ne hX dX9_formatOrder_19 (tgt := 24) (by decide) (fun q3 => ?_) (fun q3 => ?_)
  · replace h := ite_f q3 h
    refine q_aload_n hX dX9_formatOrder_24 rfl ?_
    refine q_iconst hX dX9_formatOrder_25 (v := (nI 0)) (by decide) ?_
    replace h := wr_e h
    refine q_putI hX pf_X9_177 rfl dX9_formatOrder_26 (at_of (n := 0) rfl) rfl rfl ?_
    generalize up2 _ _ _ _ = I4 at h ⊢
    refine q_aload_n hX dX9_formatOrder_29 rfl ?_
    refine q_bipush hX dX9_formatOrder_30 (v := (nI 35)) (by decide) ?_
    refine q_aload_n hX dX9_formatOrder_32 rfl ?_
    refine q_iload_n hX dX9_formatOrder_33 rfl ?_
    refine q_iconst hX dX9_formatOrder_34 (v := (nI 0)) (by decide) ?_
    refine q_V_ip hX hR (w_X9_o  h) lk_X9_48 (rc2_of (ci := 10) rfl rfl) dX9_formatOrder_35 rfl rfl (Nat.le_of_ble_eq_true rfl) (by omega) (by omega) (by omega) ?_
    intro x5 h
    refine q_V_v hX hR (w_X9_writesBehind  h) lk_X9_186 (rc2_of (ci := 10) rfl rfl) dX9_formatOrder_38 rfl rfl (Nat.le_of_ble_eq_true rfl) (by omega) (by omega) (by omega) ?_
    intro I6 h
    refine q_aload_n hX dX9_formatOrder_41 rfl ?_
    refine q_bipush hX dX9_formatOrder_42 (v := (nI 32)) (by decide) ?_
    refine q_V_v hX hR (w_X9_writes  h) lk_X9_183 (rc2_of (ci := 10) rfl rfl) dX9_formatOrder_44 rfl rfl (Nat.le_of_ble_eq_true rfl) (by omega) (by omega) (by omega) ?_
    intro I7 h
    refine q_aload_n hX dX9_formatOrder_47 rfl ?_
    refine q_bipush hX dX9_formatOrder_48 (v := (nI 116)) (by decide) ?_
    refine q_aload_n hX dX9_formatOrder_50 rfl ?_
    refine q_iload_n hX dX9_formatOrder_51 rfl ?_
    refine q_iconst hX dX9_formatOrder_52 (v := (nI 1)) (by decide) ?_
    refine q_V_ip hX hR (w_X9_o  h) lk_X9_48 (rc2_of (ci := 10) rfl rfl) dX9_formatOrder_53 rfl rfl (Nat.le_of_ble_eq_true rfl) (by omega) (by omega) (by omega) ?_
    intro x8 h
    refine q_V_v hX hR (w_X9_writesBehind  h) lk_X9_186 (rc2_of (ci := 10) rfl rfl) dX9_formatOrder_56 rfl rfl (Nat.le_of_ble_eq_true rfl) (by omega) (by omega) (by omega) ?_
    intro I9 h
    refine q_aload_n hX dX9_formatOrder_59 rfl ?_
    refine q_bipush hX dX9_formatOrder_60 (v := (nI 32)) (by decide) ?_
    refine q_aload_n hX dX9_formatOrder_62 rfl ?_
    refine q_iload_n hX dX9_formatOrder_63 rfl ?_
    refine q_iconst hX dX9_formatOrder_64 (v := (nI 2)) (by decide) ?_
    refine q_V_ip hX hR (w_X9_o  h) lk_X9_48 (rc2_of (ci := 10) rfl rfl) dX9_formatOrder_65 rfl rfl (Nat.le_of_ble_eq_true rfl) (by omega) (by omega) (by omega) ?_
    intro x10 h
    refine q_V_v hX hR (w_X9_writesBehind  h) lk_X9_186 (rc2_of (ci := 10) rfl rfl) dX9_formatOrder_68 rfl rfl (Nat.le_of_ble_eq_true rfl) (by omega) (by omega) (by omega) ?_
    intro I11 h
    refine q_aload_n hX dX9_formatOrder_71 rfl ?_
    refine q_bipush hX dX9_formatOrder_72 (v := (nI 120)) (by decide) ?_
    refine q_aload_n hX dX9_formatOrder_74 rfl ?_
    refine q_iload_n hX dX9_formatOrder_75 rfl ?_
    refine q_iconst hX dX9_formatOrder_76 (v := (nI 3)) (by decide) ?_
    refine q_V_ip hX hR (w_X9_o  h) lk_X9_48 (rc2_of (ci := 10) rfl rfl) dX9_formatOrder_77 rfl rfl (Nat.le_of_ble_eq_true rfl) (by omega) (by omega) (by omega) ?_
    intro x12 h
    refine q_V_v hX hR (w_X9_writesBehind  h) lk_X9_186 (rc2_of (ci := 10) rfl rfl) dX9_formatOrder_80 rfl rfl (Nat.le_of_ble_eq_true rfl) (by omega) (by omega) (by omega) ?_
    intro I13 h
    refine q_aload_n hX dX9_formatOrder_83 rfl ?_
    refine q_bipush hX dX9_formatOrder_84 (v := (nI 32)) (by decide) ?_
    refine q_V_v hX hR (w_X9_writes  h) lk_X9_183 (rc2_of (ci := 10) rfl rfl) dX9_formatOrder_86 rfl rfl (Nat.le_of_ble_eq_true rfl) (by omega) (by omega) (by omega) ?_
    intro I14 h
    refine q_aload_n hX dX9_formatOrder_89 rfl ?_
    refine q_bipush hX dX9_formatOrder_90 (v := (nI 112)) (by decide) ?_
    refine q_aload_n hX dX9_formatOrder_92 rfl ?_
    refine q_iload_n hX dX9_formatOrder_93 rfl ?_
    refine q_iconst hX dX9_formatOrder_94 (v := (nI 4)) (by decide) ?_
    refine q_V_ip hX hR (w_X9_o  h) lk_X9_48 (rc2_of (ci := 10) rfl rfl) dX9_formatOrder_95 rfl rfl (Nat.le_of_ble_eq_true rfl) (by omega) (by omega) (by omega) ?_
    intro x15 h
    refine q_V_v hX hR (w_X9_writesBehind  h) lk_X9_186 (rc2_of (ci := 10) rfl rfl) dX9_formatOrder_98 rfl rfl (Nat.le_of_ble_eq_true rfl) (by omega) (by omega) (by omega) ?_
    intro I16 h
    refine q_aload_n hX dX9_formatOrder_101 rfl ?_
    refine q_getI hX gf_X9_177 rfl dX9_formatOrder_102 (at_of (n := 0) rfl) ?_
    exact q_iret hX hT dX9_formatOrder_105 h
  · replace h := ite_t q3 h
    refine q_iconst hX dX9_formatOrder_22 (v := (nI 0)) (by decide) ?_
    exact q_iret hX hT dX9_formatOrder_23 h
set_option maxRecDepth 100000 in
set_option maxHeartbeats 4000000 in
theorem w_X9_formatOrder {l : Launch} {D : DT} {L : LT} {a1 : Int32} {I : IT} {K : Int32 → IT → Prop}  (h : f_X9_formatOrder a1 I K) : Con2 l D m_X9_formatOrder 16 [.ref 190, .int a1] 0 0 I L (Pi L K) := by
  refine Con2.of (by decide +kernel) (by simp [Value.category]) (Nat.le_of_ble_eq_true rfl) (fun X hX hT => ?_)
  have hX : OK X D cX9_formatOrder "TeaHouseModel" 3 := hX
  have hT : RT X l D (some .int) (P2 (Pi L K)) 16 0 0 := hT
  have hR := hT.room
  change J2 X D 3 0 0 I L 0 [.ref 190, .int a1, .retAddr 0] []
  rw [f_X9_formatOrder] at h
  refine q_aload_n hX dX9_formatOrder_0 rfl ?_
  refine q_iload_n hX dX9_formatOrder_1 rfl ?_
  refine q_V_ip hX hR (w_X9_find  h) lk_X9_95 (rc2_of (ci := 10) rfl rfl) dX9_formatOrder_2 rfl rfl (Nat.le_of_ble_eq_true rfl) (by omega) (by omega) (by omega) ?_
  intro x1 h
  refine q_istore_n hX dX9_formatOrder_5 (by decide) (ls' := [_, _, _]) rfl ?_
  refine q_aload_n hX dX9_formatOrder_6 rfl ?_
  refine q_iload_n hX dX9_formatOrder_7 rfl ?_
  refine q_if_lt hX dX9_formatOrder_8 (tgt := 15) (by decide) (fun q2 => ?_) (fun q2 => ?_)
  · replace h := ite_t q2 h
    refine q_iconst hX dX9_formatOrder_15 (v := (nI 0)) (by decide) ?_
    exact q_dr (w_X9_formatOrder_b16 hX hT    _ _ _ (Or.inl rfl) (isC_n (by decide)) h) ⟨Or.inl rfl, Or.inr rfl, Or.inl rfl, trivial⟩
  · replace h := ite_f q2 h
    refine q_iconst hX dX9_formatOrder_11 (v := (nI 1)) (by decide) ?_
    refine q_goto hX dX9_formatOrder_12 (tgt := 16) (by decide) ?_
    exact q_dr (w_X9_formatOrder_b16 hX hT    _ _ _ (Or.inr rfl) (isC_n (by decide)) h) ⟨Or.inl rfl, Or.inr rfl, Or.inl rfl, trivial⟩
set_option maxRecDepth 100000 in
set_option maxHeartbeats 4000000 in
theorem w_X9_formatLedger_b33 {X : XT} {D : DT} {l : Launch} {L : LT} {K : Int32 → IT → Prop} {X12 : Int32 → IT → Prop} (hX : OK X D cX9_formatLedger "TeaHouseModel" 2) (hT : RT X l D (some .int) (P2 (Pi L K)) 15 0 0)  (hx12 : ∀ (v1 : Int32) (I : IT), X12 v1 I → J2 X D 2 0 0 I L 12 [.ref 190, .int v1] []) : ∀ (v1 : Int32) (I : IT), f_X9_formatLedger_b33 X12 K v1 I → J2 X D 2 0 0 I L 33 [.ref 190, .int v1] [] := by
  have hR := hT.room
  intro v1 I h
  rw [f_X9_formatLedger_b33] at h
  refine q_aload_n hX dX9_formatLedger_33 rfl ?_
  refine q_aload_n hX dX9_formatLedger_34 rfl ?_
  refine q_getR hX gf_X9_9 rfl dX9_formatLedger_35 (at_of (n := 0) rfl) (b := 191) rfl ?_
  refine q_bipush hX dX9_formatLedger_38 (v := (nI 19)) (by decide) ?_
  refine q_iload_n hX dX9_formatLedger_40 rfl ?_
  refine q_iadd hX dX9_formatLedger_41 ?_
  obtain ⟨z1, h⟩ := h
  refine q_iald hX dX9_formatLedger_42 (at_of (a := 191) (t := 22) (n := 1236) rfl) (inr_e z1) (inr_lt z1) (by decide) ?_
  refine q_V_v hX hR (w_X9_writesNumber  h) lk_X9_180 (rc2_of (ci := 10) rfl rfl) dX9_formatLedger_43 rfl rfl (Nat.le_of_ble_eq_true rfl) (by omega) (by omega) (by omega) ?_
  intro I2 h
  replace h := bnd_e h
  refine q_iinc hX dX9_formatLedger_46 (by decide) rfl (v := _ + nI 1) (ls' := [_, _]) rfl rfl ?_
  refine q_goto hX dX9_formatLedger_49 (tgt := 12) (by decide) ?_
  exact q_dr (hx12 _ _  h) ⟨Or.inl rfl, Or.inl rfl, trivial⟩
set_option maxRecDepth 100000 in
set_option maxHeartbeats 4000000 in
theorem w_X9_formatLedger_b12 {X : XT} {D : DT} {l : Launch} {L : LT} {K : Int32 → IT → Prop} (hX : OK X D cX9_formatLedger "TeaHouseModel" 2) (hT : RT X l D (some .int) (P2 (Pi L K)) 15 0 0)   : ∀ (n : Nat), ∀ (v1 : Int32) (I : IT), f_X9_formatLedger_b12 K n v1 I → J2 X D 2 0 0 I L 12 [.ref 190, .int v1] [] := by
  have hR := hT.room
  intro n
  induction n with
  | zero => intro v1 I h; exact False.elim h
  | succ n ih =>
    intro v1 I h
    rw [f_X9_formatLedger_b12] at h
    refine q_iload_n hX dX9_formatLedger_12 rfl ?_
    refine q_aload_n hX dX9_formatLedger_13 rfl ?_
    refine q_getR hX gf_X9_9 rfl dX9_formatLedger_14 (at_of (n := 0) rfl) (b := 191) rfl ?_
    refine q_bipush hX dX9_formatLedger_17 (v := (nI 13)) (by decide) ?_
    refine q_iald hX dX9_formatLedger_19 (at_of (a := 191) (t := 22) (n := 1236) rfl) (j := 13) rfl (by decide) (by decide) ?_
    refine q_icmp_ge hX dX9_formatLedger_20 (tgt := 52) (by decide) (fun q1 => ?_) (fun q1 => ?_)
    · replace h := ite_t q1 h
      refine q_aload_n hX dX9_formatLedger_52 rfl ?_
      refine q_getI hX gf_X9_177 rfl dX9_formatLedger_53 (at_of (n := 0) rfl) ?_
      exact q_iret hX hT dX9_formatLedger_56 h
    · replace h := ite_f q1 h
      refine q_iload_n hX dX9_formatLedger_23 rfl ?_
      refine q_if_le hX dX9_formatLedger_24 (tgt := 33) (by decide) (fun q2 => ?_) (fun q2 => ?_)
      · replace h := ite_t q2 h
        exact q_dr (w_X9_formatLedger_b33 hX hT  (fun _ _ h => ih _ _  h)  _ _  h) ⟨Or.inl rfl, Or.inl rfl, trivial⟩
      · replace h := ite_f q2 h
        refine q_aload_n hX dX9_formatLedger_27 rfl ?_
        refine q_bipush hX dX9_formatLedger_28 (v := (nI 32)) (by decide) ?_
        refine q_V_v hX hR (w_X9_writes  h) lk_X9_183 (rc2_of (ci := 10) rfl rfl) dX9_formatLedger_30 rfl rfl (Nat.le_of_ble_eq_true rfl) (by omega) (by omega) (by omega) ?_
        intro I3 h
        exact q_dr (w_X9_formatLedger_b33 hX hT  (fun _ _ h => ih _ _  h)  _ _  h) ⟨Or.inl rfl, Or.inl rfl, trivial⟩
set_option maxRecDepth 100000 in
set_option maxHeartbeats 4000000 in
theorem w_X9_formatLedger {l : Launch} {D : DT} {L : LT}  {I : IT} {K : Int32 → IT → Prop}  (h : f_X9_formatLedger  I K) : Con2 l D m_X9_formatLedger 15 [.ref 190] 0 0 I L (Pi L K) := by
  refine Con2.of (by decide +kernel) (by simp [Value.category]) (Nat.le_of_ble_eq_true rfl) (fun X hX hT => ?_)
  have hX : OK X D cX9_formatLedger "TeaHouseModel" 2 := hX
  have hT : RT X l D (some .int) (P2 (Pi L K)) 15 0 0 := hT
  have hR := hT.room
  change J2 X D 2 0 0 I L 0 [.ref 190, .retAddr 0] []
  rw [f_X9_formatLedger] at h
  refine q_aload_n hX dX9_formatLedger_0 rfl ?_
  refine q_iconst hX dX9_formatLedger_1 (v := (nI 0)) (by decide) ?_
  replace h := wr_e h
  refine q_putI hX pf_X9_30 rfl dX9_formatLedger_2 (at_of (n := 0) rfl) rfl rfl ?_
  generalize up2 _ _ _ _ = I1 at h ⊢
  refine q_aload_n hX dX9_formatLedger_5 rfl ?_
  refine q_iconst hX dX9_formatLedger_6 (v := (nI 0)) (by decide) ?_
  replace h := wr_e h
  refine q_putI hX pf_X9_177 rfl dX9_formatLedger_7 (at_of (n := 0) rfl) rfl rfl ?_
  generalize up2 _ _ _ _ = I2 at h ⊢
  refine q_iconst hX dX9_formatLedger_10 (v := (nI 0)) (by decide) ?_
  refine q_istore_n hX dX9_formatLedger_11 (by decide) (ls' := [_, _]) rfl ?_
  exact q_dr (w_X9_formatLedger_b12 hX hT   _  _ _  h) ⟨Or.inl rfl, Or.inl rfl, trivial⟩
set_option maxRecDepth 100000 in
set_option maxHeartbeats 4000000 in
theorem w_X9_lineChar {l : Launch} {D : DT} {L : LT} {a1 : Int32} {I : IT} {K : Int32 → IT → Prop}  (h : f_X9_lineChar a1 I K) : Con2 l D m_X9_lineChar 2 [.ref 190, .int a1] 0 0 I L (Pc L K) := by
  refine Con2.of (by decide +kernel) (by simp [Value.category]) (Nat.le_of_ble_eq_true rfl) (fun X hX hT => ?_)
  have hX : OK X D cX9_lineChar "TeaHouseModel" 2 := hX
  have hT : RT X l D (some .char) (P2 (Pc L K)) 2 0 0 := hT
  have hR := hT.room
  change J2 X D 2 0 0 I L 0 [.ref 190, .int a1] []
  rw [f_X9_lineChar] at h
  refine q_aload_n hX dX9_lineChar_0 rfl ?_
  refine q_iload_n hX dX9_lineChar_1 rfl ?_
  refine q_iconst hX dX9_lineChar_2 (v := (nI 0)) (by decide) ?_
  refine q_aload_n hX dX9_lineChar_3 rfl ?_
  refine q_getI hX gf_X9_177 rfl dX9_lineChar_4 (at_of (n := 0) rfl) ?_
  refine q_iconst hX dX9_lineChar_7 (v := (nI 1)) (by decide) ?_
  refine q_isub hX dX9_lineChar_8 ?_
  refine q_S_zp hX hR (w_X9_in  h) lk_X9_44 dX9_lineChar_9 rfl rfl (Nat.le_of_ble_eq_true rfl) (by omega) (by omega) (by omega) ?_
  intro x1 hrx1 h
  refine q_V_z hX hR (w_X9_isFine hrx1 h) lk_X9_149 (rc2_of (ci := 10) rfl rfl) dX9_lineChar_12 rfl rfl (Nat.le_of_ble_eq_true rfl) (by omega) (by omega) (by omega) ?_
  intro x2 I3 hrx2 h
  refine q_if_eq hX dX9_lineChar_15 (tgt := 27) (by decide) (fun q4 => ?_) (fun q4 => ?_)
  · replace h := ite_t q4 h
    refine q_iconst hX dX9_lineChar_27 (v := (nI 0)) (by decide) ?_
    exact q_cret hX hT dX9_lineChar_28 (isC_n (by decide)) h
  · replace h := ite_f q4 h
    refine q_aload_n hX dX9_lineChar_18 rfl ?_
    refine q_getR hX gf_X9_13 rfl dX9_lineChar_19 (at_of (n := 0) rfl) (b := 192) rfl ?_
    refine q_iload_n hX dX9_lineChar_22 rfl ?_
    obtain ⟨z5, h⟩ := h
    refine q_cald hX dX9_lineChar_23 (at_of (a := 192) (t := 21) (n := 240) rfl) (inr_e z5) (inr_lt z5) (by decide) ?_
    refine q_goto hX dX9_lineChar_24 (tgt := 28) (by decide) ?_
    obtain ⟨z6, h⟩ := h
    exact q_cret hX hT dX9_lineChar_28 z6 h
set_option maxRecDepth 100000 in
set_option maxHeartbeats 4000000 in
theorem w_X9_append_b30 {X : XT} {D : DT} {l : Launch} {L : LT} {a1 : Int32} {K : Int32 → IT → Prop} (hX : OK X D cX9_append "TeaHouseModel" 2) (hT : RT X l D (some .int) (P2 (Pi L K)) 2 0 0) (ha1 : isC a1)  : ∀ (s1 : Int32) (I : IT), isC s1 → f_X9_append_b30 a1 K s1 I → J2 X D 2 0 0 I L 30 [.ref 190, .int a1] [.int s1, .ref 190] := by
  have hR := hT.room
  intro s1 I hcs1 h
  rw [f_X9_append_b30] at h
  replace h := wr_e h
  refine q_putI hX pf_X9_30 rfl dX9_append_30 (at_of (n := 0) rfl) rfl rfl ?_
  generalize up2 _ _ _ _ = I1 at h ⊢
  refine q_aload_n hX dX9_append_33 rfl ?_
  refine q_getI hX gf_X9_30 rfl dX9_append_34 (at_of (n := 0) rfl) ?_
  refine q_if_eq hX dX9_append_37 (tgt := 42) (by decide) (fun q2 => ?_) (fun q2 => ?_)
  · replace h := ite_t q2 h
    refine q_aload_n hX dX9_append_42 rfl ?_
    refine q_getR hX gf_X9_17 rfl dX9_append_43 (at_of (n := 0) rfl) (b := 193) rfl ?_
    refine q_aload_n hX dX9_append_46 rfl ?_
    refine q_getI hX gf_X9_189 rfl dX9_append_47 (at_of (n := 0) rfl) ?_
    refine q_iload_n hX dX9_append_50 rfl ?_
    obtain ⟨z3, h⟩ := h
    replace h := wr_e h
    refine q_cast hX dX9_append_51 (at_of (a := 193) (t := 21) (n := 60) rfl) (inr_e z3) (inr_lt z3) (by decide) (narv_c ha1) ?_
    generalize up2 _ _ _ _ = I4 at h ⊢
    refine q_aload_n hX dX9_append_52 rfl ?_
    refine q_dup hX dX9_append_53 rfl ?_
    refine q_getI hX gf_X9_189 rfl dX9_append_54 (at_of (n := 0) rfl) ?_
    refine q_iconst hX dX9_append_57 (v := (nI 1)) (by decide) ?_
    refine q_iadd hX dX9_append_58 ?_
    replace h := wr_e h
    refine q_putI hX pf_X9_189 rfl dX9_append_59 (at_of (n := 0) rfl) rfl rfl ?_
    generalize up2 _ _ _ _ = I5 at h ⊢
    refine q_aload_n hX dX9_append_62 rfl ?_
    refine q_getI hX gf_X9_189 rfl dX9_append_63 (at_of (n := 0) rfl) ?_
    exact q_iret hX hT dX9_append_66 h
  · replace h := ite_f q2 h
    refine q_iconst hX dX9_append_40 (v := (nI 0)) (by decide) ?_
    exact q_iret hX hT dX9_append_41 h
set_option maxRecDepth 100000 in
set_option maxHeartbeats 4000000 in
theorem w_X9_append {l : Launch} {D : DT} {L : LT} {a1 : Int32} {I : IT} {K : Int32 → IT → Prop} (ha1 : isC a1) (h : f_X9_append a1 I K) : Con2 l D m_X9_append 2 [.ref 190, .int a1] 0 0 I L (Pi L K) := by
  refine Con2.of (by decide +kernel) (by simp [Value.category]) (Nat.le_of_ble_eq_true rfl) (fun X hX hT => ?_)
  have hX : OK X D cX9_append "TeaHouseModel" 2 := hX
  have hT : RT X l D (some .int) (P2 (Pi L K)) 2 0 0 := hT
  have hR := hT.room
  change J2 X D 2 0 0 I L 0 [.ref 190, .int a1] []
  rw [f_X9_append] at h
  refine q_aload_n hX dX9_append_0 rfl ?_
  refine q_iload_n hX dX9_append_1 rfl ?_
  refine q_bipush hX dX9_append_2 (v := (nI 32)) (by decide) ?_
  refine q_bipush hX dX9_append_4 (v := (nI 126)) (by decide) ?_
  refine q_S_zp hX hR (w_X9_in  h) lk_X9_44 dX9_append_6 rfl rfl (Nat.le_of_ble_eq_true rfl) (by omega) (by omega) (by omega) ?_
  intro x1 hrx1 h
  refine q_if_ne hX dX9_append_9 (tgt := 16) (by decide) (fun q2 => ?_) (fun q2 => ?_)
  · replace h := ite_f q2 h
    refine q_aload_n hX dX9_append_16 rfl ?_
    refine q_getI hX gf_X9_189 rfl dX9_append_17 (at_of (n := 0) rfl) ?_
    refine q_bipush hX dX9_append_20 (v := (nI 60)) (by decide) ?_
    refine q_icmp_ne hX dX9_append_22 (tgt := 29) (by decide) (fun q3 => ?_) (fun q3 => ?_)
    · replace h := ite_f q3 h
      refine q_iconst hX dX9_append_29 (v := (nI 0)) (by decide) ?_
      exact q_dr (w_X9_append_b30 hX hT ha1   _ _ (isC_n (by decide)) h) ⟨Or.inl rfl, Or.inl rfl, trivial⟩
    · replace h := ite_t q3 h
      refine q_iconst hX dX9_append_25 (v := (nI 2)) (by decide) ?_
      refine q_goto hX dX9_append_26 (tgt := 30) (by decide) ?_
      exact q_dr (w_X9_append_b30 hX hT ha1   _ _ (isC_n (by decide)) h) ⟨Or.inl rfl, Or.inl rfl, trivial⟩
  · replace h := ite_t q2 h
    refine q_iconst hX dX9_append_12 (v := (nI 1)) (by decide) ?_
    refine q_goto hX dX9_append_13 (tgt := 30) (by decide) ?_
    exact q_dr (w_X9_append_b30 hX hT ha1   _ _ (isC_n (by decide)) h) ⟨Or.inl rfl, Or.inl rfl, trivial⟩
set_option maxRecDepth 100000 in
set_option maxHeartbeats 4000000 in
theorem w_X9_sign {l : Launch} {D : DT} {L : LT}  {I : IT} {K : Int32 → Prop}  (h : f_X9_sign  I K) : Con2 l D m_X9_sign 1 [.ref 190] 0 0 I L (Pi L (fun x I' => I' = I ∧ K x)) := by
  refine Con2.of (by decide +kernel) (by simp [Value.category]) (Nat.le_of_ble_eq_true rfl) (fun X hX hT => ?_)
  have hX : OK X D cX9_sign "TeaHouseModel" 1 := hX
  have hT : RT X l D (some .int) (P2 (Pi L (fun x I' => I' = I ∧ K x))) 1 0 0 := hT
  have hR := hT.room
  change J2 X D 1 0 0 I L 0 [.ref 190] []
  rw [f_X9_sign] at h
  refine q_aload_n hX dX9_sign_0 rfl ?_
  refine q_getI hX gf_X9_192 rfl dX9_sign_1 (at_of (n := 0) rfl) ?_
  refine q_aload_n hX dX9_sign_4 rfl ?_
  refine q_getI hX gf_X9_189 rfl dX9_sign_5 (at_of (n := 0) rfl) ?_
  refine q_icmp_ge hX dX9_sign_8 (tgt := 23) (by decide) (fun q1 => ?_) (fun q1 => ?_)
  · replace h := ite_t q1 h
    refine q_iconst hX dX9_sign_23 (v := (-1)) (by decide) ?_
    exact q_iretp hX hT dX9_sign_24 h
  · replace h := ite_f q1 h
    refine q_aload_n hX dX9_sign_11 rfl ?_
    refine q_getR hX gf_X9_17 rfl dX9_sign_12 (at_of (n := 0) rfl) (b := 193) rfl ?_
    refine q_aload_n hX dX9_sign_15 rfl ?_
    refine q_getI hX gf_X9_192 rfl dX9_sign_16 (at_of (n := 0) rfl) ?_
    obtain ⟨z2, h⟩ := h
    refine q_cald hX dX9_sign_19 (at_of (a := 193) (t := 21) (n := 60) rfl) (inr_e z2) (inr_lt z2) (by decide) ?_
    refine q_goto hX dX9_sign_20 (tgt := 24) (by decide) ?_
    exact q_iretp hX hT dX9_sign_24 h
set_option maxRecDepth 100000 in
set_option maxHeartbeats 4000000 in
theorem w_X9_needs {l : Launch} {D : DT} {L : LT} {a1 : Int32} {I : IT} {K : IT → Prop}  (h : f_X9_needs a1 I K) : Con2 l D m_X9_needs 2 [.ref 190, .int a1] 0 0 I L (Pv L K) := by
  refine Con2.of (by decide +kernel) (by simp [Value.category]) (Nat.le_of_ble_eq_true rfl) (fun X hX hT => ?_)
  have hX : OK X D cX9_needs "TeaHouseModel" 2 := hX
  have hT : RT X l D none (P2 (Pv L K)) 2 0 0 := hT
  have hR := hT.room
  change J2 X D 2 0 0 I L 0 [.ref 190, .int a1] []
  rw [f_X9_needs] at h
  refine q_aload_n hX dX9_needs_0 rfl ?_
  refine q_getI hX gf_X9_195 rfl dX9_needs_1 (at_of (n := 0) rfl) ?_
  refine q_if_lt hX dX9_needs_4 (tgt := 8) (by decide) (fun q1 => ?_) (fun q1 => ?_)
  · replace h := ite_t q1 h
    refine q_aload_n hX dX9_needs_8 rfl ?_
    refine q_V_ip hX hR (w_X9_sign  h) lk_X9_198 (rc2_of (ci := 10) rfl rfl) dX9_needs_9 rfl rfl (Nat.le_of_ble_eq_true rfl) (by omega) (by omega) (by omega) ?_
    intro x2 h
    refine q_iload_n hX dX9_needs_12 rfl ?_
    refine q_icmp_eq hX dX9_needs_13 (tgt := 25) (by decide) (fun q3 => ?_) (fun q3 => ?_)
    · replace h := ite_t q3 h
      refine q_aload_n hX dX9_needs_25 rfl ?_
      refine q_dup hX dX9_needs_26 rfl ?_
      refine q_getI hX gf_X9_192 rfl dX9_needs_27 (at_of (n := 0) rfl) ?_
      refine q_iconst hX dX9_needs_30 (v := (nI 1)) (by decide) ?_
      refine q_iadd hX dX9_needs_31 ?_
      replace h := wr_e h
      refine q_putI hX pf_X9_192 rfl dX9_needs_32 (at_of (n := 0) rfl) rfl rfl ?_
      generalize up2 _ _ _ _ = I4 at h ⊢
      exact q_vret hX hT dX9_needs_35 h
    · replace h := ite_f q3 h
      refine q_aload_n hX dX9_needs_16 rfl ?_
      refine q_aload_n hX dX9_needs_17 rfl ?_
      refine q_getI hX gf_X9_192 rfl dX9_needs_18 (at_of (n := 0) rfl) ?_
      replace h := wr_e h
      refine q_putI hX pf_X9_195 rfl dX9_needs_21 (at_of (n := 0) rfl) rfl rfl ?_
      generalize up2 _ _ _ _ = I5 at h ⊢
      exact q_vret hX hT dX9_needs_24 h
  · replace h := ite_f q1 h
    exact q_vret hX hT dX9_needs_7 h
set_option maxRecDepth 100000 in
set_option maxHeartbeats 4000000 in
theorem w_X9_letters {l : Launch} {D : DT} {L : LT} {a1 : Int32} {a2 : Int32} {a3 : Int32} {I : IT} {K : IT → Prop}  (h : f_X9_letters a1 a2 a3 I K) : Con2 l D m_X9_letters 3 [.ref 190, .int a1, .int a2, .int a3] 0 0 I L (Pv L K) := by
  refine Con2.of (by decide +kernel) (by simp [Value.category]) (Nat.le_of_ble_eq_true rfl) (fun X hX hT => ?_)
  have hX : OK X D cX9_letters "TeaHouseModel" 4 := hX
  have hT : RT X l D none (P2 (Pv L K)) 3 0 0 := hT
  have hR := hT.room
  change J2 X D 4 0 0 I L 0 [.ref 190, .int a1, .int a2, .int a3] []
  rw [f_X9_letters] at h
  refine q_aload_n hX dX9_letters_0 rfl ?_
  refine q_iload_n hX dX9_letters_1 rfl ?_
  refine q_V_v hX hR (w_X9_needs  h) lk_X9_201 (rc2_of (ci := 10) rfl rfl) dX9_letters_2 rfl rfl (Nat.le_of_ble_eq_true rfl) (by omega) (by omega) (by omega) ?_
  intro I1 h
  refine q_aload_n hX dX9_letters_5 rfl ?_
  refine q_iload_n hX dX9_letters_6 rfl ?_
  refine q_V_v hX hR (w_X9_needs  h) lk_X9_201 (rc2_of (ci := 10) rfl rfl) dX9_letters_7 rfl rfl (Nat.le_of_ble_eq_true rfl) (by omega) (by omega) (by omega) ?_
  intro I2 h
  refine q_aload_n hX dX9_letters_10 rfl ?_
  refine q_iload_n hX dX9_letters_11 rfl ?_
  refine q_V_v hX hR (w_X9_needs  h) lk_X9_201 (rc2_of (ci := 10) rfl rfl) dX9_letters_12 rfl rfl (Nat.le_of_ble_eq_true rfl) (by omega) (by omega) (by omega) ?_
  intro I3 h
  exact q_vret hX hT dX9_letters_15 h
set_option maxRecDepth 100000 in
set_option maxHeartbeats 4000000 in
theorem w_X9_number_b43 {X : XT} {D : DT} {l : Launch} {L : LT} {a1 : Int32} {K : Int32 → IT → Prop} (hX : OK X D cX9_number "TeaHouseModel" 4) (hT : RT X l D (some .int) (P2 (Pi L K)) 3 0 0)   : ∀ (n : Nat), ∀ (v2 : Int32) (v3 : Int32) (I : IT), f_X9_number_b43 a1 K n v2 v3 I → J2 X D 4 0 0 I L 43 [.ref 190, .int a1, .int v2, .int v3] [] := by
  have hR := hT.room
  intro n
  induction n with
  | zero => intro v2 v3 I h; exact False.elim h
  | succ n ih =>
    intro v2 v3 I h
    rw [f_X9_number_b43] at h
    refine q_iload_n hX dX9_number_43 rfl ?_
    refine q_iload_n hX dX9_number_44 rfl ?_
    refine q_icmp_ge hX dX9_number_45 (tgt := 91) (by decide) (fun q1 => ?_) (fun q1 => ?_)
    · replace h := ite_t q1 h
      refine q_iload_n hX dX9_number_91 rfl ?_
      exact q_iret hX hT dX9_number_92 h
    · replace h := ite_f q1 h
      refine q_aload_n hX dX9_number_48 rfl ?_
      refine q_V_ip hX hR (w_X9_sign  h) lk_X9_198 (rc2_of (ci := 10) rfl rfl) dX9_number_49 rfl rfl (Nat.le_of_ble_eq_true rfl) (by omega) (by omega) (by omega) ?_
      intro x2 h
      refine q_bipush hX dX9_number_52 (v := (nI 48)) (by decide) ?_
      refine q_bipush hX dX9_number_54 (v := (nI 57)) (by decide) ?_
      refine q_S_zp hX hR (w_X9_in  h) lk_X9_44 dX9_number_56 rfl rfl (Nat.le_of_ble_eq_true rfl) (by omega) (by omega) (by omega) ?_
      intro x3 hrx3 h
      refine q_if_eq hX dX9_number_59 (tgt := 91) (by decide) (fun q4 => ?_) (fun q4 => ?_)
      · replace h := ite_t q4 h
        refine q_iload_n hX dX9_number_91 rfl ?_
        exact q_iret hX hT dX9_number_92 h
      · replace h := ite_f q4 h
        refine q_bipush hX dX9_number_62 (v := (nI 10)) (by decide) ?_
        refine q_iload_n hX dX9_number_64 rfl ?_
        refine q_imul hX dX9_number_65 ?_
        refine q_aload_n hX dX9_number_66 rfl ?_
        refine q_V_ip hX hR (w_X9_sign  h) lk_X9_198 (rc2_of (ci := 10) rfl rfl) dX9_number_67 rfl rfl (Nat.le_of_ble_eq_true rfl) (by omega) (by omega) (by omega) ?_
        intro x5 h
        refine q_iadd hX dX9_number_70 ?_
        refine q_bipush hX dX9_number_71 (v := (nI 48)) (by decide) ?_
        refine q_isub hX dX9_number_73 ?_
        replace h := bnd_e h
        refine q_istore_n hX dX9_number_74 (by decide) (ls' := [_, _, _, _]) rfl ?_
        refine q_aload_n hX dX9_number_75 rfl ?_
        refine q_dup hX dX9_number_76 rfl ?_
        refine q_getI hX gf_X9_192 rfl dX9_number_77 (at_of (n := 0) rfl) ?_
        refine q_iconst hX dX9_number_80 (v := (nI 1)) (by decide) ?_
        refine q_iadd hX dX9_number_81 ?_
        replace h := wr_e h
        refine q_putI hX pf_X9_192 rfl dX9_number_82 (at_of (n := 0) rfl) rfl rfl ?_
        generalize up2 _ _ _ _ = I7 at h ⊢
        replace h := bnd_e h
        refine q_iinc hX dX9_number_85 (by decide) rfl (v := _ + nI 1) (ls' := [_, _, _, _]) rfl rfl ?_
        refine q_goto hX dX9_number_88 (tgt := 43) (by decide) ?_
        exact q_dr (ih _ _ _  h) ⟨Or.inl rfl, Or.inl rfl, Or.inl rfl, Or.inl rfl, trivial⟩
set_option maxRecDepth 100000 in
set_option maxHeartbeats 4000000 in
theorem w_X9_number {l : Launch} {D : DT} {L : LT} {a1 : Int32} {I : IT} {K : Int32 → IT → Prop}  (h : f_X9_number a1 I K) : Con2 l D m_X9_number 3 [.ref 190, .int a1] 0 0 I L (Pi L K) := by
  refine Con2.of (by decide +kernel) (by simp [Value.category]) (Nat.le_of_ble_eq_true rfl) (fun X hX hT => ?_)
  have hX : OK X D cX9_number "TeaHouseModel" 4 := hX
  have hT : RT X l D (some .int) (P2 (Pi L K)) 3 0 0 := hT
  have hR := hT.room
  change J2 X D 4 0 0 I L 0 [.ref 190, .int a1, .retAddr 0, .retAddr 0] []
  rw [f_X9_number] at h
  refine q_aload_n hX dX9_number_0 rfl ?_
  refine q_bipush hX dX9_number_1 (v := (nI 32)) (by decide) ?_
  refine q_V_v hX hR (w_X9_needs  h) lk_X9_201 (rc2_of (ci := 10) rfl rfl) dX9_number_3 rfl rfl (Nat.le_of_ble_eq_true rfl) (by omega) (by omega) (by omega) ?_
  intro I1 h
  refine q_aload_n hX dX9_number_6 rfl ?_
  refine q_getI hX gf_X9_195 rfl dX9_number_7 (at_of (n := 0) rfl) ?_
  refine q_if_lt hX dX9_number_10 (tgt := 15) (by decide) (fun q2 => ?_) (fun q2 => ?_)
  · replace h := ite_t q2 h
    refine q_aload_n hX dX9_number_15 rfl ?_
    refine q_V_ip hX hR (w_X9_sign  h) lk_X9_198 (rc2_of (ci := 10) rfl rfl) dX9_number_16 rfl rfl (Nat.le_of_ble_eq_true rfl) (by omega) (by omega) (by omega) ?_
    intro x3 h
    refine q_bipush hX dX9_number_19 (v := (nI 48)) (by decide) ?_
    refine q_bipush hX dX9_number_21 (v := (nI 57)) (by decide) ?_
    refine q_S_zp hX hR (w_X9_in  h) lk_X9_44 dX9_number_23 rfl rfl (Nat.le_of_ble_eq_true rfl) (by omega) (by omega) (by omega) ?_
    intro x4 hrx4 h
    refine q_if_ne hX dX9_number_26 (tgt := 39) (by decide) (fun q5 => ?_) (fun q5 => ?_)
    · replace h := ite_f q5 h
      refine q_iconst hX dX9_number_39 (v := (nI 0)) (by decide) ?_
      refine q_istore_n hX dX9_number_40 (by decide) (ls' := [_, _, _, _]) rfl ?_
      refine q_iconst hX dX9_number_41 (v := (nI 0)) (by decide) ?_
      refine q_istore_n hX dX9_number_42 (by decide) (ls' := [_, _, _, _]) rfl ?_
      exact q_dr (w_X9_number_b43 hX hT   _  _ _ _  h) ⟨Or.inl rfl, Or.inl rfl, Or.inl rfl, Or.inl rfl, trivial⟩
    · replace h := ite_t q5 h
      refine q_aload_n hX dX9_number_29 rfl ?_
      refine q_aload_n hX dX9_number_30 rfl ?_
      refine q_getI hX gf_X9_192 rfl dX9_number_31 (at_of (n := 0) rfl) ?_
      replace h := wr_e h
      refine q_putI hX pf_X9_195 rfl dX9_number_34 (at_of (n := 0) rfl) rfl rfl ?_
      generalize up2 _ _ _ _ = I6 at h ⊢
      refine q_iconst hX dX9_number_37 (v := (nI 0)) (by decide) ?_
      exact q_iret hX hT dX9_number_38 h
  · replace h := ite_f q2 h
    refine q_iconst hX dX9_number_13 (v := (nI 0)) (by decide) ?_
    exact q_iret hX hT dX9_number_14 h
set_option maxRecDepth 100000 in
set_option maxHeartbeats 4000000 in
theorem w_X9_word_b317 {X : XT} {D : DT} {l : Launch} {L : LT} {a1 : Int32} {K : Int32 → IT → Prop} (hX : OK X D cX9_word "TeaHouseModel" 2) (hT : RT X l D (some .int) (P2 (Pi L K)) 4 0 0)   : ∀ (I : IT), f_X9_word_b317 a1 K I → J2 X D 2 0 0 I L 317 [.ref 190, .retAddr 0] [] := by
  have hR := hT.room
  intro I h
  rw [f_X9_word_b317] at h
  refine q_aload_n hX dX9_word_317 rfl ?_
  refine q_V_ip hX hR (w_X9_sign  h) lk_X9_198 (rc2_of (ci := 10) rfl rfl) dX9_word_318 rfl rfl (Nat.le_of_ble_eq_true rfl) (by omega) (by omega) (by omega) ?_
  intro x1 h
  refine q_bipush hX dX9_word_321 (v := (nI 108)) (by decide) ?_
  refine q_icmp_ne hX dX9_word_323 (tgt := 345) (by decide) (fun q2 => ?_) (fun q2 => ?_)
  · replace h := ite_f q2 h
    refine q_aload_n hX dX9_word_345 rfl ?_
    refine q_V_ip hX hR (w_X9_sign  h) lk_X9_198 (rc2_of (ci := 10) rfl rfl) dX9_word_346 rfl rfl (Nat.le_of_ble_eq_true rfl) (by omega) (by omega) (by omega) ?_
    intro x5 h
    refine q_bipush hX dX9_word_349 (v := (nI 117)) (by decide) ?_
    refine q_icmp_ne hX dX9_word_351 (tgt := 369) (by decide) (fun q6 => ?_) (fun q6 => ?_)
    · replace h := ite_f q6 h
      refine q_aload_n hX dX9_word_369 rfl ?_
      refine q_bipush hX dX9_word_370 (v := (nI 97)) (by decide) ?_
      refine q_bipush hX dX9_word_372 (v := (nI 110)) (by decide) ?_
      refine q_bipush hX dX9_word_374 (v := (nI 99)) (by decide) ?_
      refine q_V_v hX hR (w_X9_letters  h) lk_X9_204 (rc2_of (ci := 10) rfl rfl) dX9_word_376 rfl rfl (Nat.le_of_ble_eq_true rfl) (by omega) (by omega) (by omega) ?_
      intro I9 h
      refine q_aload_n hX dX9_word_379 rfl ?_
      refine q_bipush hX dX9_word_380 (v := (nI 101)) (by decide) ?_
      refine q_V_v hX hR (w_X9_needs  h) lk_X9_201 (rc2_of (ci := 10) rfl rfl) dX9_word_382 rfl rfl (Nat.le_of_ble_eq_true rfl) (by omega) (by omega) (by omega) ?_
      intro I10 h
      refine q_aload_n hX dX9_word_385 rfl ?_
      refine q_bipush hX dX9_word_386 (v := (nI 108)) (by decide) ?_
      refine q_V_v hX hR (w_X9_needs  h) lk_X9_201 (rc2_of (ci := 10) rfl rfl) dX9_word_388 rfl rfl (Nat.le_of_ble_eq_true rfl) (by omega) (by omega) (by omega) ?_
      intro I11 h
      refine q_bipush hX dX9_word_391 (v := (nI 99)) (by decide) ?_
      exact q_iret hX hT dX9_word_393 h
    · replace h := ite_t q6 h
      refine q_aload_n hX dX9_word_354 rfl ?_
      refine q_bipush hX dX9_word_355 (v := (nI 117)) (by decide) ?_
      refine q_V_v hX hR (w_X9_needs  h) lk_X9_201 (rc2_of (ci := 10) rfl rfl) dX9_word_357 rfl rfl (Nat.le_of_ble_eq_true rfl) (by omega) (by omega) (by omega) ?_
      intro I7 h
      refine q_aload_n hX dX9_word_360 rfl ?_
      refine q_bipush hX dX9_word_361 (v := (nI 112)) (by decide) ?_
      refine q_V_v hX hR (w_X9_needs  h) lk_X9_201 (rc2_of (ci := 10) rfl rfl) dX9_word_363 rfl rfl (Nat.le_of_ble_eq_true rfl) (by omega) (by omega) (by omega) ?_
      intro I8 h
      refine q_bipush hX dX9_word_366 (v := (nI 117)) (by decide) ?_
      exact q_iret hX hT dX9_word_368 h
  · replace h := ite_t q2 h
    refine q_aload_n hX dX9_word_326 rfl ?_
    refine q_bipush hX dX9_word_327 (v := (nI 108)) (by decide) ?_
    refine q_bipush hX dX9_word_329 (v := (nI 111)) (by decide) ?_
    refine q_bipush hX dX9_word_331 (v := (nI 115)) (by decide) ?_
    refine q_V_v hX hR (w_X9_letters  h) lk_X9_204 (rc2_of (ci := 10) rfl rfl) dX9_word_333 rfl rfl (Nat.le_of_ble_eq_true rfl) (by omega) (by omega) (by omega) ?_
    intro I3 h
    refine q_aload_n hX dX9_word_336 rfl ?_
    refine q_bipush hX dX9_word_337 (v := (nI 101)) (by decide) ?_
    refine q_V_v hX hR (w_X9_needs  h) lk_X9_201 (rc2_of (ci := 10) rfl rfl) dX9_word_339 rfl rfl (Nat.le_of_ble_eq_true rfl) (by omega) (by omega) (by omega) ?_
    intro I4 h
    refine q_bipush hX dX9_word_342 (v := (nI 122)) (by decide) ?_
    exact q_iret hX hT dX9_word_344 h
set_option maxRecDepth 100000 in
set_option maxHeartbeats 4000000 in
theorem w_X9_word {l : Launch} {D : DT} {L : LT} {a1 : Int32} {I : IT} {K : Int32 → IT → Prop}  (h : f_X9_word a1 I K) : Con2 l D m_X9_word 4 [.ref 190, .int a1] 0 0 I L (Pi L K) := by
  refine Con2.of (by decide +kernel) (by simp [Value.category]) (Nat.le_of_ble_eq_true rfl) (fun X hX hT => ?_)
  have hX : OK X D cX9_word "TeaHouseModel" 2 := hX
  have hT : RT X l D (some .int) (P2 (Pi L K)) 4 0 0 := hT
  have hR := hT.room
  change J2 X D 2 0 0 I L 0 [.ref 190, .int a1] []
  rw [f_X9_word] at h
  refine q_iload_n hX dX9_word_0 rfl ?_
  refine q_cas (k := (nI 97)) (fun q24 => ?_) (fun q24 => ?_)
  · replace h := ite_t q24 h
    refine q_tableInE hX dX9_word_1 q24 (by decide +kernel) (by decide +kernel) (off := 244) (by decide +kernel) (tgt := 245) (by decide) ?_
    refine q_aload_n hX dX9_word_245 rfl ?_
    refine q_bipush hX dX9_word_246 (v := (nI 116)) (by decide) ?_
    refine q_bipush hX dX9_word_248 (v := (nI 116)) (by decide) ?_
    refine q_bipush hX dX9_word_250 (v := (nI 101)) (by decide) ?_
    refine q_V_v hX hR (w_X9_letters  h) lk_X9_204 (rc2_of (ci := 10) rfl rfl) dX9_word_252 rfl rfl (Nat.le_of_ble_eq_true rfl) (by omega) (by omega) (by omega) ?_
    intro I1 h
    refine q_aload_n hX dX9_word_255 rfl ?_
    refine q_bipush hX dX9_word_256 (v := (nI 110)) (by decide) ?_
    refine q_V_v hX hR (w_X9_needs  h) lk_X9_201 (rc2_of (ci := 10) rfl rfl) dX9_word_258 rfl rfl (Nat.le_of_ble_eq_true rfl) (by omega) (by omega) (by omega) ?_
    intro I2 h
    refine q_aload_n hX dX9_word_261 rfl ?_
    refine q_bipush hX dX9_word_262 (v := (nI 100)) (by decide) ?_
    refine q_V_v hX hR (w_X9_needs  h) lk_X9_201 (rc2_of (ci := 10) rfl rfl) dX9_word_264 rfl rfl (Nat.le_of_ble_eq_true rfl) (by omega) (by omega) (by omega) ?_
    intro I3 h
    refine q_bipush hX dX9_word_267 (v := (nI 97)) (by decide) ?_
    exact q_iret hX hT dX9_word_269 h
  replace h := ite_f q24 h
  refine q_cas (k := (nI 98)) (fun q25 => ?_) (fun q25 => ?_)
  · replace h := ite_t q25 h
    refine q_tableInE hX dX9_word_1 q25 (by decide +kernel) (by decide +kernel) (off := 145) (by decide +kernel) (tgt := 146) (by decide) ?_
    refine q_aload_n hX dX9_word_146 rfl ?_
    refine q_bipush hX dX9_word_147 (v := (nI 117)) (by decide) ?_
    refine q_bipush hX dX9_word_149 (v := (nI 114)) (by decide) ?_
    refine q_bipush hX dX9_word_151 (v := (nI 110)) (by decide) ?_
    refine q_V_v hX hR (w_X9_letters  h) lk_X9_204 (rc2_of (ci := 10) rfl rfl) dX9_word_153 rfl rfl (Nat.le_of_ble_eq_true rfl) (by omega) (by omega) (by omega) ?_
    intro I4 h
    refine q_aload_n hX dX9_word_156 rfl ?_
    refine q_bipush hX dX9_word_157 (v := (nI 101)) (by decide) ?_
    refine q_V_v hX hR (w_X9_needs  h) lk_X9_201 (rc2_of (ci := 10) rfl rfl) dX9_word_159 rfl rfl (Nat.le_of_ble_eq_true rfl) (by omega) (by omega) (by omega) ?_
    intro I5 h
    refine q_aload_n hX dX9_word_162 rfl ?_
    refine q_bipush hX dX9_word_163 (v := (nI 114)) (by decide) ?_
    refine q_V_v hX hR (w_X9_needs  h) lk_X9_201 (rc2_of (ci := 10) rfl rfl) dX9_word_165 rfl rfl (Nat.le_of_ble_eq_true rfl) (by omega) (by omega) (by omega) ?_
    intro I6 h
    refine q_bipush hX dX9_word_168 (v := (nI 98)) (by decide) ?_
    exact q_iret hX hT dX9_word_170 h
  replace h := ite_f q25 h
  refine q_cas (k := (nI 99)) (fun q26 => ?_) (fun q26 => ?_)
  · replace h := ite_t q26 h
    refine q_tableInE hX dX9_word_1 q26 (by decide +kernel) (by decide +kernel) (off := 316) (by decide +kernel) (tgt := 317) (by decide) ?_
    exact q_dr (w_X9_word_b317 hX hT    _  h) ⟨Or.inl rfl, Or.inr rfl, trivial⟩
  replace h := ite_f q26 h
  refine q_cas (k := (nI 100)) (fun q27 => ?_) (fun q27 => ?_)
  · replace h := ite_t q27 h
    refine q_tableInE hX dX9_word_1 q27 (by decide +kernel) (by decide +kernel) (off := 316) (by decide +kernel) (tgt := 317) (by decide) ?_
    exact q_dr (w_X9_word_b317 hX hT    _  h) ⟨Or.inl rfl, Or.inr rfl, trivial⟩
  replace h := ite_f q27 h
  refine q_cas (k := (nI 101)) (fun q28 => ?_) (fun q28 => ?_)
  · replace h := ite_t q28 h
    refine q_tableInE hX dX9_word_1 q28 (by decide +kernel) (by decide +kernel) (off := 316) (by decide +kernel) (tgt := 317) (by decide) ?_
    exact q_dr (w_X9_word_b317 hX hT    _  h) ⟨Or.inl rfl, Or.inr rfl, trivial⟩
  replace h := ite_f q28 h
  refine q_cas (k := (nI 102)) (fun q29 => ?_) (fun q29 => ?_)
  · replace h := ite_t q29 h
    refine q_tableInE hX dX9_word_1 q29 (by decide +kernel) (by decide +kernel) (off := 132) (by decide +kernel) (tgt := 133) (by decide) ?_
    refine q_aload_n hX dX9_word_133 rfl ?_
    refine q_bipush hX dX9_word_134 (v := (nI 105)) (by decide) ?_
    refine q_bipush hX dX9_word_136 (v := (nI 108)) (by decide) ?_
    refine q_bipush hX dX9_word_138 (v := (nI 108)) (by decide) ?_
    refine q_V_v hX hR (w_X9_letters  h) lk_X9_204 (rc2_of (ci := 10) rfl rfl) dX9_word_140 rfl rfl (Nat.le_of_ble_eq_true rfl) (by omega) (by omega) (by omega) ?_
    intro I7 h
    refine q_bipush hX dX9_word_143 (v := (nI 102)) (by decide) ?_
    exact q_iret hX hT dX9_word_145 h
  replace h := ite_f q29 h
  refine q_cas (k := (nI 103)) (fun q30 => ?_) (fun q30 => ?_)
  · replace h := ite_t q30 h
    refine q_tableInE hX dX9_word_1 q30 (by decide +kernel) (by decide +kernel) (off := 316) (by decide +kernel) (tgt := 317) (by decide) ?_
    exact q_dr (w_X9_word_b317 hX hT    _  h) ⟨Or.inl rfl, Or.inr rfl, trivial⟩
  replace h := ite_f q30 h
  refine q_cas (k := (nI 104)) (fun q31 => ?_) (fun q31 => ?_)
  · replace h := ite_t q31 h
    refine q_tableInE hX dX9_word_1 q31 (by decide +kernel) (by decide +kernel) (off := 316) (by decide +kernel) (tgt := 317) (by decide) ?_
    exact q_dr (w_X9_word_b317 hX hT    _  h) ⟨Or.inl rfl, Or.inr rfl, trivial⟩
  replace h := ite_f q31 h
  refine q_cas (k := (nI 105)) (fun q32 => ?_) (fun q32 => ?_)
  · replace h := ite_t q32 h
    refine q_tableInE hX dX9_word_1 q32 (by decide +kernel) (by decide +kernel) (off := 316) (by decide +kernel) (tgt := 317) (by decide) ?_
    exact q_dr (w_X9_word_b317 hX hT    _  h) ⟨Or.inl rfl, Or.inr rfl, trivial⟩
  replace h := ite_f q32 h
  refine q_cas (k := (nI 106)) (fun q33 => ?_) (fun q33 => ?_)
  · replace h := ite_t q33 h
    refine q_tableInE hX dX9_word_1 q33 (by decide +kernel) (by decide +kernel) (off := 316) (by decide +kernel) (tgt := 317) (by decide) ?_
    exact q_dr (w_X9_word_b317 hX hT    _  h) ⟨Or.inl rfl, Or.inr rfl, trivial⟩
  replace h := ite_f q33 h
  refine q_cas (k := (nI 107)) (fun q34 => ?_) (fun q34 => ?_)
  · replace h := ite_t q34 h
    refine q_tableInE hX dX9_word_1 q34 (by decide +kernel) (by decide +kernel) (off := 107) (by decide +kernel) (tgt := 108) (by decide) ?_
    refine q_aload_n hX dX9_word_108 rfl ?_
    refine q_bipush hX dX9_word_109 (v := (nI 101)) (by decide) ?_
    refine q_bipush hX dX9_word_111 (v := (nI 116)) (by decide) ?_
    refine q_bipush hX dX9_word_113 (v := (nI 116)) (by decide) ?_
    refine q_V_v hX hR (w_X9_letters  h) lk_X9_204 (rc2_of (ci := 10) rfl rfl) dX9_word_115 rfl rfl (Nat.le_of_ble_eq_true rfl) (by omega) (by omega) (by omega) ?_
    intro I8 h
    refine q_aload_n hX dX9_word_118 rfl ?_
    refine q_bipush hX dX9_word_119 (v := (nI 108)) (by decide) ?_
    refine q_V_v hX hR (w_X9_needs  h) lk_X9_201 (rc2_of (ci := 10) rfl rfl) dX9_word_121 rfl rfl (Nat.le_of_ble_eq_true rfl) (by omega) (by omega) (by omega) ?_
    intro I9 h
    refine q_aload_n hX dX9_word_124 rfl ?_
    refine q_bipush hX dX9_word_125 (v := (nI 101)) (by decide) ?_
    refine q_V_v hX hR (w_X9_needs  h) lk_X9_201 (rc2_of (ci := 10) rfl rfl) dX9_word_127 rfl rfl (Nat.le_of_ble_eq_true rfl) (by omega) (by omega) (by omega) ?_
    intro I10 h
    refine q_bipush hX dX9_word_130 (v := (nI 107)) (by decide) ?_
    exact q_iret hX hT dX9_word_132 h
  replace h := ite_f q34 h
  refine q_cas (k := (nI 108)) (fun q35 => ?_) (fun q35 => ?_)
  · replace h := ite_t q35 h
    refine q_tableInE hX dX9_word_1 q35 (by decide +kernel) (by decide +kernel) (off := 225) (by decide +kernel) (tgt := 226) (by decide) ?_
    refine q_aload_n hX dX9_word_226 rfl ?_
    refine q_bipush hX dX9_word_227 (v := (nI 105)) (by decide) ?_
    refine q_bipush hX dX9_word_229 (v := (nI 116)) (by decide) ?_
    refine q_bipush hX dX9_word_231 (v := (nI 114)) (by decide) ?_
    refine q_V_v hX hR (w_X9_letters  h) lk_X9_204 (rc2_of (ci := 10) rfl rfl) dX9_word_233 rfl rfl (Nat.le_of_ble_eq_true rfl) (by omega) (by omega) (by omega) ?_
    intro I11 h
    refine q_aload_n hX dX9_word_236 rfl ?_
    refine q_bipush hX dX9_word_237 (v := (nI 101)) (by decide) ?_
    refine q_V_v hX hR (w_X9_needs  h) lk_X9_201 (rc2_of (ci := 10) rfl rfl) dX9_word_239 rfl rfl (Nat.le_of_ble_eq_true rfl) (by omega) (by omega) (by omega) ?_
    intro I12 h
    refine q_bipush hX dX9_word_242 (v := (nI 108)) (by decide) ?_
    exact q_iret hX hT dX9_word_244 h
  replace h := ite_f q35 h
  refine q_cas (k := (nI 109)) (fun q36 => ?_) (fun q36 => ?_)
  · replace h := ite_t q36 h
    refine q_tableInE hX dX9_word_1 q36 (by decide +kernel) (by decide +kernel) (off := 202) (by decide +kernel) (tgt := 203) (by decide) ?_
    refine q_aload_n hX dX9_word_203 rfl ?_
    refine q_bipush hX dX9_word_204 (v := (nI 105)) (by decide) ?_
    refine q_bipush hX dX9_word_206 (v := (nI 110)) (by decide) ?_
    refine q_bipush hX dX9_word_208 (v := (nI 117)) (by decide) ?_
    refine q_V_v hX hR (w_X9_letters  h) lk_X9_204 (rc2_of (ci := 10) rfl rfl) dX9_word_210 rfl rfl (Nat.le_of_ble_eq_true rfl) (by omega) (by omega) (by omega) ?_
    intro I13 h
    refine q_aload_n hX dX9_word_213 rfl ?_
    refine q_bipush hX dX9_word_214 (v := (nI 116)) (by decide) ?_
    refine q_bipush hX dX9_word_216 (v := (nI 101)) (by decide) ?_
    refine q_bipush hX dX9_word_218 (v := (nI 115)) (by decide) ?_
    refine q_V_v hX hR (w_X9_letters  h) lk_X9_204 (rc2_of (ci := 10) rfl rfl) dX9_word_220 rfl rfl (Nat.le_of_ble_eq_true rfl) (by omega) (by omega) (by omega) ?_
    intro I14 h
    refine q_bipush hX dX9_word_223 (v := (nI 109)) (by decide) ?_
    exact q_iret hX hT dX9_word_225 h
  replace h := ite_f q36 h
  refine q_cas (k := (nI 110)) (fun q37 => ?_) (fun q37 => ?_)
  · replace h := ite_t q37 h
    refine q_tableInE hX dX9_word_1 q37 (by decide +kernel) (by decide +kernel) (off := 316) (by decide +kernel) (tgt := 317) (by decide) ?_
    exact q_dr (w_X9_word_b317 hX hT    _  h) ⟨Or.inl rfl, Or.inr rfl, trivial⟩
  replace h := ite_f q37 h
  refine q_cas (k := (nI 111)) (fun q38 => ?_) (fun q38 => ?_)
  · replace h := ite_t q38 h
    refine q_tableInE hX dX9_word_1 q38 (by decide +kernel) (by decide +kernel) (off := 170) (by decide +kernel) (tgt := 171) (by decide) ?_
    refine q_aload_n hX dX9_word_171 rfl ?_
    refine q_bipush hX dX9_word_172 (v := (nI 114)) (by decide) ?_
    refine q_bipush hX dX9_word_174 (v := (nI 100)) (by decide) ?_
    refine q_bipush hX dX9_word_176 (v := (nI 101)) (by decide) ?_
    refine q_V_v hX hR (w_X9_letters  h) lk_X9_204 (rc2_of (ci := 10) rfl rfl) dX9_word_178 rfl rfl (Nat.le_of_ble_eq_true rfl) (by omega) (by omega) (by omega) ?_
    intro I15 h
    refine q_aload_n hX dX9_word_181 rfl ?_
    refine q_bipush hX dX9_word_182 (v := (nI 114)) (by decide) ?_
    refine q_V_v hX hR (w_X9_needs  h) lk_X9_201 (rc2_of (ci := 10) rfl rfl) dX9_word_184 rfl rfl (Nat.le_of_ble_eq_true rfl) (by omega) (by omega) (by omega) ?_
    intro I16 h
    refine q_bipush hX dX9_word_187 (v := (nI 111)) (by decide) ?_
    exact q_iret hX hT dX9_word_189 h
  replace h := ite_f q38 h
  refine q_cas (k := (nI 112)) (fun q39 => ?_) (fun q39 => ?_)
  · replace h := ite_t q39 h
    refine q_tableInE hX dX9_word_1 q39 (by decide +kernel) (by decide +kernel) (off := 316) (by decide +kernel) (tgt := 317) (by decide) ?_
    exact q_dr (w_X9_word_b317 hX hT    _  h) ⟨Or.inl rfl, Or.inr rfl, trivial⟩
  replace h := ite_f q39 h
  refine q_cas (k := (nI 113)) (fun q40 => ?_) (fun q40 => ?_)
  · replace h := ite_t q40 h
    refine q_tableInE hX dX9_word_1 q40 (by decide +kernel) (by decide +kernel) (off := 316) (by decide +kernel) (tgt := 317) (by decide) ?_
    exact q_dr (w_X9_word_b317 hX hT    _  h) ⟨Or.inl rfl, Or.inr rfl, trivial⟩
  replace h := ite_f q40 h
  refine q_cas (k := (nI 114)) (fun q41 => ?_) (fun q41 => ?_)
  · replace h := ite_t q41 h
    refine q_tableInE hX dX9_word_1 q41 (by decide +kernel) (by decide +kernel) (off := 316) (by decide +kernel) (tgt := 317) (by decide) ?_
    exact q_dr (w_X9_word_b317 hX hT    _  h) ⟨Or.inl rfl, Or.inr rfl, trivial⟩
  replace h := ite_f q41 h
  refine q_cas (k := (nI 115)) (fun q42 => ?_) (fun q42 => ?_)
  · replace h := ite_t q42 h
    refine q_tableInE hX dX9_word_1 q42 (by decide +kernel) (by decide +kernel) (off := 269) (by decide +kernel) (tgt := 270) (by decide) ?_
    refine q_aload_n hX dX9_word_270 rfl ?_
    refine q_V_ip hX hR (w_X9_sign  h) lk_X9_198 (rc2_of (ci := 10) rfl rfl) dX9_word_271 rfl rfl (Nat.le_of_ble_eq_true rfl) (by omega) (by omega) (by omega) ?_
    intro x17 h
    refine q_bipush hX dX9_word_274 (v := (nI 116)) (by decide) ?_
    refine q_icmp_ne hX dX9_word_276 (tgt := 298) (by decide) (fun q18 => ?_) (fun q18 => ?_)
    · replace h := ite_f q18 h
      refine q_aload_n hX dX9_word_298 rfl ?_
      refine q_bipush hX dX9_word_299 (v := (nI 101)) (by decide) ?_
      refine q_bipush hX dX9_word_301 (v := (nI 114)) (by decide) ?_
      refine q_bipush hX dX9_word_303 (v := (nI 118)) (by decide) ?_
      refine q_V_v hX hR (w_X9_letters  h) lk_X9_204 (rc2_of (ci := 10) rfl rfl) dX9_word_305 rfl rfl (Nat.le_of_ble_eq_true rfl) (by omega) (by omega) (by omega) ?_
      intro I21 h
      refine q_aload_n hX dX9_word_308 rfl ?_
      refine q_bipush hX dX9_word_309 (v := (nI 101)) (by decide) ?_
      refine q_V_v hX hR (w_X9_needs  h) lk_X9_201 (rc2_of (ci := 10) rfl rfl) dX9_word_311 rfl rfl (Nat.le_of_ble_eq_true rfl) (by omega) (by omega) (by omega) ?_
      intro I22 h
      refine q_bipush hX dX9_word_314 (v := (nI 115)) (by decide) ?_
      exact q_iret hX hT dX9_word_316 h
    · replace h := ite_t q18 h
      refine q_aload_n hX dX9_word_279 rfl ?_
      refine q_bipush hX dX9_word_280 (v := (nI 116)) (by decide) ?_
      refine q_bipush hX dX9_word_282 (v := (nI 101)) (by decide) ?_
      refine q_bipush hX dX9_word_284 (v := (nI 97)) (by decide) ?_
      refine q_V_v hX hR (w_X9_letters  h) lk_X9_204 (rc2_of (ci := 10) rfl rfl) dX9_word_286 rfl rfl (Nat.le_of_ble_eq_true rfl) (by omega) (by omega) (by omega) ?_
      intro I19 h
      refine q_aload_n hX dX9_word_289 rfl ?_
      refine q_bipush hX dX9_word_290 (v := (nI 109)) (by decide) ?_
      refine q_V_v hX hR (w_X9_needs  h) lk_X9_201 (rc2_of (ci := 10) rfl rfl) dX9_word_292 rfl rfl (Nat.le_of_ble_eq_true rfl) (by omega) (by omega) (by omega) ?_
      intro I20 h
      refine q_bipush hX dX9_word_295 (v := (nI 116)) (by decide) ?_
      exact q_iret hX hT dX9_word_297 h
  replace h := ite_f q42 h
  refine q_cas (k := (nI 116)) (fun q43 => ?_) (fun q43 => ?_)
  · replace h := ite_t q43 h
    refine q_tableInE hX dX9_word_1 q43 (by decide +kernel) (by decide +kernel) (off := 316) (by decide +kernel) (tgt := 317) (by decide) ?_
    exact q_dr (w_X9_word_b317 hX hT    _  h) ⟨Or.inl rfl, Or.inr rfl, trivial⟩
  replace h := ite_f q43 h
  refine q_cas (k := (nI 117)) (fun q44 => ?_) (fun q44 => ?_)
  · replace h := ite_t q44 h
    refine q_tableInE hX dX9_word_1 q44 (by decide +kernel) (by decide +kernel) (off := 316) (by decide +kernel) (tgt := 317) (by decide) ?_
    exact q_dr (w_X9_word_b317 hX hT    _  h) ⟨Or.inl rfl, Or.inr rfl, trivial⟩
  replace h := ite_f q44 h
  refine q_cas (k := (nI 118)) (fun q45 => ?_) (fun q45 => ?_)
  · replace h := ite_t q45 h
    refine q_tableInE hX dX9_word_1 q45 (by decide +kernel) (by decide +kernel) (off := 316) (by decide +kernel) (tgt := 317) (by decide) ?_
    exact q_dr (w_X9_word_b317 hX hT    _  h) ⟨Or.inl rfl, Or.inr rfl, trivial⟩
  replace h := ite_f q45 h
  refine q_cas (k := (nI 119)) (fun q46 => ?_) (fun q46 => ?_)
  · replace h := ite_t q46 h
    refine q_tableInE hX dX9_word_1 q46 (by decide +kernel) (by decide +kernel) (off := 189) (by decide +kernel) (tgt := 190) (by decide) ?_
    refine q_aload_n hX dX9_word_190 rfl ?_
    refine q_bipush hX dX9_word_191 (v := (nI 97)) (by decide) ?_
    refine q_bipush hX dX9_word_193 (v := (nI 115)) (by decide) ?_
    refine q_bipush hX dX9_word_195 (v := (nI 104)) (by decide) ?_
    refine q_V_v hX hR (w_X9_letters  h) lk_X9_204 (rc2_of (ci := 10) rfl rfl) dX9_word_197 rfl rfl (Nat.le_of_ble_eq_true rfl) (by omega) (by omega) (by omega) ?_
    intro I23 h
    refine q_bipush hX dX9_word_200 (v := (nI 119)) (by decide) ?_
    exact q_iret hX hT dX9_word_202 h
  replace h := ite_f q46 h
  refine q_tableOut hX dX9_word_1 (by have w0 := swn q24 (by decide); have w1 := swn q25 (by decide); have w2 := swn q26 (by decide); have w3 := swn q27 (by decide); have w4 := swn q28 (by decide); have w5 := swn q29 (by decide); have w6 := swn q30 (by decide); have w7 := swn q31 (by decide); have w8 := swn q32 (by decide); have w9 := swn q33 (by decide); have w10 := swn q34 (by decide); have w11 := swn q35 (by decide); have w12 := swn q36 (by decide); have w13 := swn q37 (by decide); have w14 := swn q38 (by decide); have w15 := swn q39 (by decide); have w16 := swn q40 (by decide); have w17 := swn q41 (by decide); have w18 := swn q42 (by decide); have w19 := swn q43 (by decide); have w20 := swn q44 (by decide); have w21 := swn q45 (by decide); have w22 := swn q46 (by decide); omega) (tgt := 317) (by decide) ?_
  exact q_dr (w_X9_word_b317 hX hT    _  h) ⟨Or.inl rfl, Or.inr rfl, trivial⟩
set_option maxRecDepth 100000 in
set_option maxHeartbeats 4000000 in
theorem w_X9_command_b24 {X : XT} {D : DT} {l : Launch} {L : LT} {K : IT → Prop} {X113 : Int32 → Int32 → IT → Prop} (hX : OK X D cX9_command "TeaHouseModel" 4) (hT : RT X l D none (P2 (Pv L K)) 5 0 0)  (hx113 : ∀ (v1 : Int32) (v2 : Int32) (I : IT), X113 v1 v2 I → J2 X D 4 0 0 I L 113 [.ref 190, .int v1, .int v2, .retAddr 0] []) : ∀ (n : Nat), ∀ (v1 : Int32) (v2 : Int32) (v3 : Int32) (I : IT), f_X9_command_b24 X113 K n v1 v2 v3 I → J2 X D 4 0 0 I L 24 [.ref 190, .int v1, .int v2, .int v3] [] := by
  have hR := hT.room
  intro n
  induction n with
  | zero => intro v1 v2 v3 I h; exact False.elim h
  | succ n ih =>
    intro v1 v2 v3 I h
    rw [f_X9_command_b24] at h
    refine q_iload_n hX dX9_command_24 rfl ?_
    refine q_iconst hX dX9_command_25 (v := (nI 5)) (by decide) ?_
    refine q_icmp_ge hX dX9_command_26 (tgt := 44) (by decide) (fun q1 => ?_) (fun q1 => ?_)
    · replace h := ite_t q1 h
      refine q_iload_n hX dX9_command_44 rfl ?_
      refine q_bipush hX dX9_command_45 (v := (nI 107)) (by decide) ?_
      refine q_icmp_eq hX dX9_command_47 (tgt := 113) (by decide) (fun q2 => ?_) (fun q2 => ?_)
      · replace h := ite_t q2 h
        exact q_dr (hx113 _ _ _  h) ⟨Or.inl rfl, Or.inl rfl, Or.inl rfl, Or.inr rfl, trivial⟩
      · replace h := ite_f q2 h
        refine q_iload_n hX dX9_command_50 rfl ?_
        refine q_bipush hX dX9_command_51 (v := (nI 102)) (by decide) ?_
        refine q_icmp_eq hX dX9_command_53 (tgt := 113) (by decide) (fun q3 => ?_) (fun q3 => ?_)
        · replace h := ite_t q3 h
          exact q_dr (hx113 _ _ _  h) ⟨Or.inl rfl, Or.inl rfl, Or.inl rfl, Or.inr rfl, trivial⟩
        · replace h := ite_f q3 h
          refine q_iload_n hX dX9_command_56 rfl ?_
          refine q_bipush hX dX9_command_57 (v := (nI 98)) (by decide) ?_
          refine q_icmp_eq hX dX9_command_59 (tgt := 113) (by decide) (fun q4 => ?_) (fun q4 => ?_)
          · replace h := ite_t q4 h
            exact q_dr (hx113 _ _ _  h) ⟨Or.inl rfl, Or.inl rfl, Or.inl rfl, Or.inr rfl, trivial⟩
          · replace h := ite_f q4 h
            refine q_iload_n hX dX9_command_62 rfl ?_
            refine q_bipush hX dX9_command_63 (v := (nI 111)) (by decide) ?_
            refine q_icmp_eq hX dX9_command_65 (tgt := 113) (by decide) (fun q5 => ?_) (fun q5 => ?_)
            · replace h := ite_t q5 h
              exact q_dr (hx113 _ _ _  h) ⟨Or.inl rfl, Or.inl rfl, Or.inl rfl, Or.inr rfl, trivial⟩
            · replace h := ite_f q5 h
              refine q_iload_n hX dX9_command_68 rfl ?_
              refine q_bipush hX dX9_command_69 (v := (nI 99)) (by decide) ?_
              refine q_icmp_eq hX dX9_command_71 (tgt := 113) (by decide) (fun q6 => ?_) (fun q6 => ?_)
              · replace h := ite_t q6 h
                exact q_dr (hx113 _ _ _  h) ⟨Or.inl rfl, Or.inl rfl, Or.inl rfl, Or.inr rfl, trivial⟩
              · replace h := ite_f q6 h
                refine q_iload_n hX dX9_command_74 rfl ?_
                refine q_bipush hX dX9_command_75 (v := (nI 115)) (by decide) ?_
                refine q_icmp_eq hX dX9_command_77 (tgt := 113) (by decide) (fun q7 => ?_) (fun q7 => ?_)
                · replace h := ite_t q7 h
                  exact q_dr (hx113 _ _ _  h) ⟨Or.inl rfl, Or.inl rfl, Or.inl rfl, Or.inr rfl, trivial⟩
                · replace h := ite_f q7 h
                  refine q_iload_n hX dX9_command_80 rfl ?_
                  refine q_bipush hX dX9_command_81 (v := (nI 119)) (by decide) ?_
                  refine q_icmp_eq hX dX9_command_83 (tgt := 113) (by decide) (fun q8 => ?_) (fun q8 => ?_)
                  · replace h := ite_t q8 h
                    exact q_dr (hx113 _ _ _  h) ⟨Or.inl rfl, Or.inl rfl, Or.inl rfl, Or.inr rfl, trivial⟩
                  · replace h := ite_f q8 h
                    refine q_iload_n hX dX9_command_86 rfl ?_
                    refine q_bipush hX dX9_command_87 (v := (nI 109)) (by decide) ?_
                    refine q_icmp_eq hX dX9_command_89 (tgt := 113) (by decide) (fun q9 => ?_) (fun q9 => ?_)
                    · replace h := ite_t q9 h
                      exact q_dr (hx113 _ _ _  h) ⟨Or.inl rfl, Or.inl rfl, Or.inl rfl, Or.inr rfl, trivial⟩
                    · replace h := ite_f q9 h
                      refine q_iload_n hX dX9_command_92 rfl ?_
                      refine q_bipush hX dX9_command_93 (v := (nI 108)) (by decide) ?_
                      refine q_icmp_eq hX dX9_command_95 (tgt := 113) (by decide) (fun q10 => ?_) (fun q10 => ?_)
                      · replace h := ite_t q10 h
                        exact q_dr (hx113 _ _ _  h) ⟨Or.inl rfl, Or.inl rfl, Or.inl rfl, Or.inr rfl, trivial⟩
                      · replace h := ite_f q10 h
                        refine q_iload_n hX dX9_command_98 rfl ?_
                        refine q_bipush hX dX9_command_99 (v := (nI 97)) (by decide) ?_
                        refine q_icmp_eq hX dX9_command_101 (tgt := 113) (by decide) (fun q11 => ?_) (fun q11 => ?_)
                        · replace h := ite_t q11 h
                          exact q_dr (hx113 _ _ _  h) ⟨Or.inl rfl, Or.inl rfl, Or.inl rfl, Or.inr rfl, trivial⟩
                        · replace h := ite_f q11 h
                          refine q_aload_n hX dX9_command_104 rfl ?_
                          refine q_aload_n hX dX9_command_105 rfl ?_
                          refine q_getI hX gf_X9_192 rfl dX9_command_106 (at_of (n := 0) rfl) ?_
                          replace h := wr_e h
                          refine q_putI hX pf_X9_195 rfl dX9_command_109 (at_of (n := 0) rfl) rfl rfl ?_
                          generalize up2 _ _ _ _ = I12 at h ⊢
                          exact q_vret hX hT dX9_command_112 h
    · replace h := ite_f q1 h
      refine q_aload_n hX dX9_command_29 rfl ?_
      refine q_getR hX gf_X9_27 rfl dX9_command_30 (at_of (n := 0) rfl) (b := 194) rfl ?_
      refine q_iload_n hX dX9_command_33 rfl ?_
      refine q_iload_n hX dX9_command_34 rfl ?_
      refine q_iadd hX dX9_command_35 ?_
      refine q_iconst hX dX9_command_36 (v := (nI 0)) (by decide) ?_
      obtain ⟨z13, h⟩ := h
      replace h := wr_e h
      refine q_iast hX dX9_command_37 (at_of (a := 194) (t := 22) (n := 305) rfl) (inr_e z13) (inr_lt z13) (by decide) rfl ?_
      generalize up2 _ _ _ _ = I14 at h ⊢
      replace h := bnd_e h
      refine q_iinc hX dX9_command_38 (by decide) rfl (v := _ + nI 1) (ls' := [_, _, _, _]) rfl rfl ?_
      refine q_goto hX dX9_command_41 (tgt := 24) (by decide) ?_
      exact q_dr (ih _ _ _ _  h) ⟨Or.inl rfl, Or.inl rfl, Or.inl rfl, Or.inl rfl, trivial⟩
set_option maxRecDepth 100000 in
set_option maxHeartbeats 4000000 in
theorem w_X9_command_b113 {X : XT} {D : DT} {l : Launch} {L : LT} {K : IT → Prop} (hX : OK X D cX9_command "TeaHouseModel" 4) (hT : RT X l D none (P2 (Pv L K)) 5 0 0)   : ∀ (v1 : Int32) (v2 : Int32) (I : IT), f_X9_command_b113 K v1 v2 I → J2 X D 4 0 0 I L 113 [.ref 190, .int v1, .int v2, .retAddr 0] [] := by
  have hR := hT.room
  intro v1 v2 I h
  rw [f_X9_command_b113] at h
  refine q_aload_n hX dX9_command_113 rfl ?_
  refine q_dup hX dX9_command_114 rfl ?_
  refine q_getI hX gf_X9_192 rfl dX9_command_115 (at_of (n := 0) rfl) ?_
  refine q_iconst hX dX9_command_118 (v := (nI 1)) (by decide) ?_
  refine q_iadd hX dX9_command_119 ?_
  replace h := wr_e h
  refine q_putI hX pf_X9_192 rfl dX9_command_120 (at_of (n := 0) rfl) rfl rfl ?_
  generalize up2 _ _ _ _ = I1 at h ⊢
  refine q_aload_n hX dX9_command_123 rfl ?_
  refine q_iload_n hX dX9_command_124 rfl ?_
  refine q_V_i hX hR (w_X9_word  h) lk_X9_210 (rc2_of (ci := 10) rfl rfl) dX9_command_125 rfl rfl (Nat.le_of_ble_eq_true rfl) (by omega) (by omega) (by omega) ?_
  intro x2 I3 h
  refine q_istore_n hX dX9_command_128 (by decide) (ls' := [_, _, _, _]) rfl ?_
  refine q_aload_n hX dX9_command_129 rfl ?_
  refine q_getR hX gf_X9_27 rfl dX9_command_130 (at_of (n := 0) rfl) (b := 194) rfl ?_
  refine q_iload_n hX dX9_command_133 rfl ?_
  refine q_iload_n hX dX9_command_134 rfl ?_
  obtain ⟨z4, h⟩ := h
  replace h := wr_e h
  refine q_iast hX dX9_command_135 (at_of (a := 194) (t := 22) (n := 305) rfl) (inr_e z4) (inr_lt z4) (by decide) rfl ?_
  generalize up2 _ _ _ _ = I5 at h ⊢
  refine q_iload_n hX dX9_command_136 rfl ?_
  refine q_cas (k := (nI 97)) (fun q46 => ?_) (fun q46 => ?_)
  · replace h := ite_t q46 h
    refine q_lookupE hX dX9_command_137 (by decide +kernel) q46 (off := 62) (by decide +kernel) (tgt := 199) (by decide) ?_
    refine q_aload_n hX dX9_command_199 rfl ?_
    refine q_getR hX gf_X9_27 rfl dX9_command_200 (at_of (n := 0) rfl) (b := 194) rfl ?_
    refine q_iload_n hX dX9_command_203 rfl ?_
    refine q_iconst hX dX9_command_204 (v := (nI 1)) (by decide) ?_
    refine q_iadd hX dX9_command_205 ?_
    refine q_aload_n hX dX9_command_206 rfl ?_
    refine q_iconst hX dX9_command_207 (v := (nI 1)) (by decide) ?_
    refine q_V_i hX hR (w_X9_number  h) lk_X9_213 (rc2_of (ci := 10) rfl rfl) dX9_command_208 rfl rfl (Nat.le_of_ble_eq_true rfl) (by omega) (by omega) (by omega) ?_
    intro x6 I7 h
    obtain ⟨z8, h⟩ := h
    replace h := wr_e h
    refine q_iast hX dX9_command_211 (at_of (a := 194) (t := 22) (n := 305) rfl) (inr_e z8) (inr_lt z8) (by decide) rfl ?_
    generalize up2 _ _ _ _ = I9 at h ⊢
    refine q_goto hX dX9_command_212 (tgt := 341) (by decide) ?_
    exact q_vret hX hT dX9_command_341 h
  replace h := ite_f q46 h
  refine q_cas (k := (nI 98)) (fun q47 => ?_) (fun q47 => ?_)
  · replace h := ite_t q47 h
    refine q_lookupE hX dX9_command_137 (by decide +kernel) q47 (off := 107) (by decide +kernel) (tgt := 244) (by decide) ?_
    refine q_aload_n hX dX9_command_244 rfl ?_
    refine q_getR hX gf_X9_27 rfl dX9_command_245 (at_of (n := 0) rfl) (b := 194) rfl ?_
    refine q_iload_n hX dX9_command_248 rfl ?_
    refine q_iconst hX dX9_command_249 (v := (nI 1)) (by decide) ?_
    refine q_iadd hX dX9_command_250 ?_
    refine q_aload_n hX dX9_command_251 rfl ?_
    refine q_iconst hX dX9_command_252 (v := (nI 1)) (by decide) ?_
    refine q_V_i hX hR (w_X9_number  h) lk_X9_213 (rc2_of (ci := 10) rfl rfl) dX9_command_253 rfl rfl (Nat.le_of_ble_eq_true rfl) (by omega) (by omega) (by omega) ?_
    intro x10 I11 h
    obtain ⟨z12, h⟩ := h
    replace h := wr_e h
    refine q_iast hX dX9_command_256 (at_of (a := 194) (t := 22) (n := 305) rfl) (inr_e z12) (inr_lt z12) (by decide) rfl ?_
    generalize up2 _ _ _ _ = I13 at h ⊢
    refine q_aload_n hX dX9_command_257 rfl ?_
    refine q_getR hX gf_X9_27 rfl dX9_command_258 (at_of (n := 0) rfl) (b := 194) rfl ?_
    refine q_iload_n hX dX9_command_261 rfl ?_
    refine q_iconst hX dX9_command_262 (v := (nI 2)) (by decide) ?_
    refine q_iadd hX dX9_command_263 ?_
    refine q_aload_n hX dX9_command_264 rfl ?_
    refine q_iconst hX dX9_command_265 (v := (nI 1)) (by decide) ?_
    refine q_V_i hX hR (w_X9_number  h) lk_X9_213 (rc2_of (ci := 10) rfl rfl) dX9_command_266 rfl rfl (Nat.le_of_ble_eq_true rfl) (by omega) (by omega) (by omega) ?_
    intro x14 I15 h
    obtain ⟨z16, h⟩ := h
    replace h := wr_e h
    refine q_iast hX dX9_command_269 (at_of (a := 194) (t := 22) (n := 305) rfl) (inr_e z16) (inr_lt z16) (by decide) rfl ?_
    generalize up2 _ _ _ _ = I17 at h ⊢
    refine q_goto hX dX9_command_270 (tgt := 341) (by decide) ?_
    exact q_vret hX hT dX9_command_341 h
  replace h := ite_f q47 h
  refine q_cas (k := (nI 102)) (fun q48 => ?_) (fun q48 => ?_)
  · replace h := ite_t q48 h
    refine q_lookupE hX dX9_command_137 (by decide +kernel) q48 (off := 78) (by decide +kernel) (tgt := 215) (by decide) ?_
    refine q_aload_n hX dX9_command_215 rfl ?_
    refine q_getR hX gf_X9_27 rfl dX9_command_216 (at_of (n := 0) rfl) (b := 194) rfl ?_
    refine q_iload_n hX dX9_command_219 rfl ?_
    refine q_iconst hX dX9_command_220 (v := (nI 1)) (by decide) ?_
    refine q_iadd hX dX9_command_221 ?_
    refine q_aload_n hX dX9_command_222 rfl ?_
    refine q_iconst hX dX9_command_223 (v := (nI 1)) (by decide) ?_
    refine q_V_i hX hR (w_X9_number  h) lk_X9_213 (rc2_of (ci := 10) rfl rfl) dX9_command_224 rfl rfl (Nat.le_of_ble_eq_true rfl) (by omega) (by omega) (by omega) ?_
    intro x18 I19 h
    obtain ⟨z20, h⟩ := h
    replace h := wr_e h
    refine q_iast hX dX9_command_227 (at_of (a := 194) (t := 22) (n := 305) rfl) (inr_e z20) (inr_lt z20) (by decide) rfl ?_
    generalize up2 _ _ _ _ = I21 at h ⊢
    refine q_aload_n hX dX9_command_228 rfl ?_
    refine q_getR hX gf_X9_27 rfl dX9_command_229 (at_of (n := 0) rfl) (b := 194) rfl ?_
    refine q_iload_n hX dX9_command_232 rfl ?_
    refine q_iconst hX dX9_command_233 (v := (nI 2)) (by decide) ?_
    refine q_iadd hX dX9_command_234 ?_
    refine q_aload_n hX dX9_command_235 rfl ?_
    refine q_iconst hX dX9_command_236 (v := (nI 3)) (by decide) ?_
    refine q_V_i hX hR (w_X9_number  h) lk_X9_213 (rc2_of (ci := 10) rfl rfl) dX9_command_237 rfl rfl (Nat.le_of_ble_eq_true rfl) (by omega) (by omega) (by omega) ?_
    intro x22 I23 h
    obtain ⟨z24, h⟩ := h
    replace h := wr_e h
    refine q_iast hX dX9_command_240 (at_of (a := 194) (t := 22) (n := 305) rfl) (inr_e z24) (inr_lt z24) (by decide) rfl ?_
    generalize up2 _ _ _ _ = I25 at h ⊢
    refine q_goto hX dX9_command_241 (tgt := 341) (by decide) ?_
    exact q_vret hX hT dX9_command_341 h
  replace h := ite_f q48 h
  refine q_cas (k := (nI 111)) (fun q49 => ?_) (fun q49 => ?_)
  · replace h := ite_t q49 h
    refine q_lookupE hX dX9_command_137 (by decide +kernel) q49 (off := 136) (by decide +kernel) (tgt := 273) (by decide) ?_
    refine q_aload_n hX dX9_command_273 rfl ?_
    refine q_getR hX gf_X9_27 rfl dX9_command_274 (at_of (n := 0) rfl) (b := 194) rfl ?_
    refine q_iload_n hX dX9_command_277 rfl ?_
    refine q_iconst hX dX9_command_278 (v := (nI 1)) (by decide) ?_
    refine q_iadd hX dX9_command_279 ?_
    refine q_aload_n hX dX9_command_280 rfl ?_
    refine q_iconst hX dX9_command_281 (v := (nI 1)) (by decide) ?_
    refine q_V_i hX hR (w_X9_number  h) lk_X9_213 (rc2_of (ci := 10) rfl rfl) dX9_command_282 rfl rfl (Nat.le_of_ble_eq_true rfl) (by omega) (by omega) (by omega) ?_
    intro x26 I27 h
    obtain ⟨z28, h⟩ := h
    replace h := wr_e h
    refine q_iast hX dX9_command_285 (at_of (a := 194) (t := 22) (n := 305) rfl) (inr_e z28) (inr_lt z28) (by decide) rfl ?_
    generalize up2 _ _ _ _ = I29 at h ⊢
    refine q_aload_n hX dX9_command_286 rfl ?_
    refine q_getR hX gf_X9_27 rfl dX9_command_287 (at_of (n := 0) rfl) (b := 194) rfl ?_
    refine q_iload_n hX dX9_command_290 rfl ?_
    refine q_iconst hX dX9_command_291 (v := (nI 2)) (by decide) ?_
    refine q_iadd hX dX9_command_292 ?_
    refine q_aload_n hX dX9_command_293 rfl ?_
    refine q_iconst hX dX9_command_294 (v := (nI 1)) (by decide) ?_
    refine q_V_i hX hR (w_X9_number  h) lk_X9_213 (rc2_of (ci := 10) rfl rfl) dX9_command_295 rfl rfl (Nat.le_of_ble_eq_true rfl) (by omega) (by omega) (by omega) ?_
    intro x30 I31 h
    obtain ⟨z32, h⟩ := h
    replace h := wr_e h
    refine q_iast hX dX9_command_298 (at_of (a := 194) (t := 22) (n := 305) rfl) (inr_e z32) (inr_lt z32) (by decide) rfl ?_
    generalize up2 _ _ _ _ = I33 at h ⊢
    refine q_aload_n hX dX9_command_299 rfl ?_
    refine q_getR hX gf_X9_27 rfl dX9_command_300 (at_of (n := 0) rfl) (b := 194) rfl ?_
    refine q_iload_n hX dX9_command_303 rfl ?_
    refine q_iconst hX dX9_command_304 (v := (nI 3)) (by decide) ?_
    refine q_iadd hX dX9_command_305 ?_
    refine q_aload_n hX dX9_command_306 rfl ?_
    refine q_iconst hX dX9_command_307 (v := (nI 3)) (by decide) ?_
    refine q_V_i hX hR (w_X9_number  h) lk_X9_213 (rc2_of (ci := 10) rfl rfl) dX9_command_308 rfl rfl (Nat.le_of_ble_eq_true rfl) (by omega) (by omega) (by omega) ?_
    intro x34 I35 h
    obtain ⟨z36, h⟩ := h
    replace h := wr_e h
    refine q_iast hX dX9_command_311 (at_of (a := 194) (t := 22) (n := 305) rfl) (inr_e z36) (inr_lt z36) (by decide) rfl ?_
    generalize up2 _ _ _ _ = I37 at h ⊢
    refine q_aload_n hX dX9_command_312 rfl ?_
    refine q_getR hX gf_X9_27 rfl dX9_command_313 (at_of (n := 0) rfl) (b := 194) rfl ?_
    refine q_iload_n hX dX9_command_316 rfl ?_
    refine q_iconst hX dX9_command_317 (v := (nI 4)) (by decide) ?_
    refine q_iadd hX dX9_command_318 ?_
    refine q_aload_n hX dX9_command_319 rfl ?_
    refine q_iconst hX dX9_command_320 (v := (nI 1)) (by decide) ?_
    refine q_V_i hX hR (w_X9_number  h) lk_X9_213 (rc2_of (ci := 10) rfl rfl) dX9_command_321 rfl rfl (Nat.le_of_ble_eq_true rfl) (by omega) (by omega) (by omega) ?_
    intro x38 I39 h
    obtain ⟨z40, h⟩ := h
    replace h := wr_e h
    refine q_iast hX dX9_command_324 (at_of (a := 194) (t := 22) (n := 305) rfl) (inr_e z40) (inr_lt z40) (by decide) rfl ?_
    generalize up2 _ _ _ _ = I41 at h ⊢
    refine q_goto hX dX9_command_325 (tgt := 341) (by decide) ?_
    exact q_vret hX hT dX9_command_341 h
  replace h := ite_f q49 h
  refine q_cas (k := (nI 115)) (fun q50 => ?_) (fun q50 => ?_)
  · replace h := ite_t q50 h
    refine q_lookupE hX dX9_command_137 (by decide +kernel) q50 (off := 59) (by decide +kernel) (tgt := 196) (by decide) ?_
    refine q_goto hX dX9_command_196 (tgt := 341) (by decide) ?_
    exact q_vret hX hT dX9_command_341 h
  replace h := ite_f q50 h
  refine q_cas (k := (nI 122)) (fun q51 => ?_) (fun q51 => ?_)
  · replace h := ite_t q51 h
    refine q_lookupE hX dX9_command_137 (by decide +kernel) q51 (off := 59) (by decide +kernel) (tgt := 196) (by decide) ?_
    refine q_goto hX dX9_command_196 (tgt := 341) (by decide) ?_
    exact q_vret hX hT dX9_command_341 h
  replace h := ite_f q51 h
  refine q_lookupO hX dX9_command_137 (by decide +kernel) ⟨Ne.symm (swn q46 (by decide)), Ne.symm (swn q47 (by decide)), Ne.symm (swn q48 (by decide)), Ne.symm (swn q49 (by decide)), Ne.symm (swn q50 (by decide)), Ne.symm (swn q51 (by decide)), trivial⟩ (tgt := 328) (by decide) ?_
  refine q_aload_n hX dX9_command_328 rfl ?_
  refine q_getR hX gf_X9_27 rfl dX9_command_329 (at_of (n := 0) rfl) (b := 194) rfl ?_
  refine q_iload_n hX dX9_command_332 rfl ?_
  refine q_iconst hX dX9_command_333 (v := (nI 1)) (by decide) ?_
  refine q_iadd hX dX9_command_334 ?_
  refine q_aload_n hX dX9_command_335 rfl ?_
  refine q_iconst hX dX9_command_336 (v := (nI 3)) (by decide) ?_
  refine q_V_i hX hR (w_X9_number  h) lk_X9_213 (rc2_of (ci := 10) rfl rfl) dX9_command_337 rfl rfl (Nat.le_of_ble_eq_true rfl) (by omega) (by omega) (by omega) ?_
  intro x42 I43 h
  obtain ⟨z44, h⟩ := h
  replace h := wr_e h
  refine q_iast hX dX9_command_340 (at_of (a := 194) (t := 22) (n := 305) rfl) (inr_e z44) (inr_lt z44) (by decide) rfl ?_
  generalize up2 _ _ _ _ = I45 at h ⊢
  exact q_vret hX hT dX9_command_341 h
set_option maxRecDepth 100000 in
set_option maxHeartbeats 4000000 in
theorem w_X9_command {l : Launch} {D : DT} {L : LT}  {I : IT} {K : IT → Prop}  (h : f_X9_command  I K) : Con2 l D m_X9_command 5 [.ref 190] 0 0 I L (Pv L K) := by
  refine Con2.of (by decide +kernel) (by simp [Value.category]) (Nat.le_of_ble_eq_true rfl) (fun X hX hT => ?_)
  have hX : OK X D cX9_command "TeaHouseModel" 4 := hX
  have hT : RT X l D none (P2 (Pv L K)) 5 0 0 := hT
  have hR := hT.room
  change J2 X D 4 0 0 I L 0 [.ref 190, .retAddr 0, .retAddr 0, .retAddr 0] []
  rw [f_X9_command] at h
  refine q_iconst hX dX9_command_0 (v := (nI 5)) (by decide) ?_
  refine q_aload_n hX dX9_command_1 rfl ?_
  refine q_getI hX gf_X9_207 rfl dX9_command_2 (at_of (n := 0) rfl) ?_
  refine q_imul hX dX9_command_5 ?_
  replace h := bnd_e h
  refine q_istore_n hX dX9_command_6 (by decide) (ls' := [_, _, _, _]) rfl ?_
  refine q_aload_n hX dX9_command_7 rfl ?_
  refine q_dup hX dX9_command_8 rfl ?_
  refine q_getI hX gf_X9_207 rfl dX9_command_9 (at_of (n := 0) rfl) ?_
  refine q_iconst hX dX9_command_12 (v := (nI 1)) (by decide) ?_
  refine q_iadd hX dX9_command_13 ?_
  replace h := wr_e h
  refine q_putI hX pf_X9_207 rfl dX9_command_14 (at_of (n := 0) rfl) rfl rfl ?_
  generalize up2 _ _ _ _ = I2 at h ⊢
  refine q_aload_n hX dX9_command_17 rfl ?_
  refine q_V_ip hX hR (w_X9_sign  h) lk_X9_198 (rc2_of (ci := 10) rfl rfl) dX9_command_18 rfl rfl (Nat.le_of_ble_eq_true rfl) (by omega) (by omega) (by omega) ?_
  intro x3 h
  refine q_istore_n hX dX9_command_21 (by decide) (ls' := [_, _, _, _]) rfl ?_
  refine q_iconst hX dX9_command_22 (v := (nI 0)) (by decide) ?_
  refine q_istore_n hX dX9_command_23 (by decide) (ls' := [_, _, _, _]) rfl ?_
  exact q_dr (w_X9_command_b24 hX hT  (fun _ _ _ h => w_X9_command_b113 hX hT    _ _ _  h) _  _ _ _ _  h) ⟨Or.inl rfl, Or.inl rfl, Or.inl rfl, Or.inl rfl, trivial⟩
set_option maxRecDepth 100000 in
set_option maxHeartbeats 4000000 in
theorem w_X9_parse_b19 {X : XT} {D : DT} {l : Launch} {L : LT} {K : IT → Prop} {X52 : IT → Prop} (hX : OK X D cX9_parse "TeaHouseModel" 1) (hT : RT X l D none (P2 (Pv L K)) 6 0 0)  (hx52 : ∀  (I : IT), X52 I → J2 X D 1 0 0 I L 52 [.ref 190] []) : ∀ (n : Nat), ∀ (I : IT), f_X9_parse_b19 X52 K n I → J2 X D 1 0 0 I L 19 [.ref 190] [] := by
  have hR := hT.room
  intro n
  induction n with
  | zero => intro I h; exact False.elim h
  | succ n ih =>
    intro I h
    rw [f_X9_parse_b19] at h
    refine q_aload_n hX dX9_parse_19 rfl ?_
    refine q_getI hX gf_X9_195 rfl dX9_parse_20 (at_of (n := 0) rfl) ?_
    refine q_if_ge hX dX9_parse_23 (tgt := 52) (by decide) (fun q1 => ?_) (fun q1 => ?_)
    · replace h := ite_t q1 h
      exact q_dr (hx52 _  h) ⟨Or.inl rfl, trivial⟩
    · replace h := ite_f q1 h
      refine q_aload_n hX dX9_parse_26 rfl ?_
      refine q_V_ip hX hR (w_X9_sign  h) lk_X9_198 (rc2_of (ci := 10) rfl rfl) dX9_parse_27 rfl rfl (Nat.le_of_ble_eq_true rfl) (by omega) (by omega) (by omega) ?_
      intro x2 h
      refine q_bipush hX dX9_parse_30 (v := (nI 59)) (by decide) ?_
      refine q_icmp_ne hX dX9_parse_32 (tgt := 52) (by decide) (fun q3 => ?_) (fun q3 => ?_)
      · replace h := ite_f q3 h
        exact q_dr (hx52 _  h) ⟨Or.inl rfl, trivial⟩
      · replace h := ite_t q3 h
        refine q_aload_n hX dX9_parse_35 rfl ?_
        refine q_dup hX dX9_parse_36 rfl ?_
        refine q_getI hX gf_X9_192 rfl dX9_parse_37 (at_of (n := 0) rfl) ?_
        refine q_iconst hX dX9_parse_40 (v := (nI 1)) (by decide) ?_
        refine q_iadd hX dX9_parse_41 ?_
        replace h := wr_e h
        refine q_putI hX pf_X9_192 rfl dX9_parse_42 (at_of (n := 0) rfl) rfl rfl ?_
        generalize up2 _ _ _ _ = I4 at h ⊢
        refine q_aload_n hX dX9_parse_45 rfl ?_
        refine q_V_v hX hR (w_X9_command  h) lk_X9_216 (rc2_of (ci := 10) rfl rfl) dX9_parse_46 rfl rfl (Nat.le_of_ble_eq_true rfl) (by omega) (by omega) (by omega) ?_
        intro I5 h
        refine q_goto hX dX9_parse_49 (tgt := 19) (by decide) ?_
        exact q_dr (ih _  h) ⟨Or.inl rfl, trivial⟩
set_option maxRecDepth 100000 in
set_option maxHeartbeats 4000000 in
theorem w_X9_parse_b52 {X : XT} {D : DT} {l : Launch} {L : LT} {K : IT → Prop} (hX : OK X D cX9_parse "TeaHouseModel" 1) (hT : RT X l D none (P2 (Pv L K)) 6 0 0)   : ∀ (I : IT), f_X9_parse_b52 K I → J2 X D 1 0 0 I L 52 [.ref 190] [] := by
  have hR := hT.room
  intro I h
  rw [f_X9_parse_b52] at h
  refine q_aload_n hX dX9_parse_52 rfl ?_
  refine q_getI hX gf_X9_195 rfl dX9_parse_53 (at_of (n := 0) rfl) ?_
  refine q_if_ge hX dX9_parse_56 (tgt := 78) (by decide) (fun q1 => ?_) (fun q1 => ?_)
  · replace h := ite_t q1 h
    exact q_vret hX hT dX9_parse_78 h
  · replace h := ite_f q1 h
    refine q_aload_n hX dX9_parse_59 rfl ?_
    refine q_getI hX gf_X9_192 rfl dX9_parse_60 (at_of (n := 0) rfl) ?_
    refine q_aload_n hX dX9_parse_63 rfl ?_
    refine q_getI hX gf_X9_189 rfl dX9_parse_64 (at_of (n := 0) rfl) ?_
    refine q_icmp_ge hX dX9_parse_67 (tgt := 78) (by decide) (fun q2 => ?_) (fun q2 => ?_)
    · replace h := ite_t q2 h
      exact q_vret hX hT dX9_parse_78 h
    · replace h := ite_f q2 h
      refine q_aload_n hX dX9_parse_70 rfl ?_
      refine q_aload_n hX dX9_parse_71 rfl ?_
      refine q_getI hX gf_X9_192 rfl dX9_parse_72 (at_of (n := 0) rfl) ?_
      replace h := wr_e h
      refine q_putI hX pf_X9_195 rfl dX9_parse_75 (at_of (n := 0) rfl) rfl rfl ?_
      generalize up2 _ _ _ _ = I3 at h ⊢
      exact q_vret hX hT dX9_parse_78 h
set_option maxRecDepth 100000 in
set_option maxHeartbeats 4000000 in
theorem w_X9_parse {l : Launch} {D : DT} {L : LT}  {I : IT} {K : IT → Prop}  (h : f_X9_parse  I K) : Con2 l D m_X9_parse 6 [.ref 190] 0 0 I L (Pv L K) := by
  refine Con2.of (by decide +kernel) (by simp [Value.category]) (Nat.le_of_ble_eq_true rfl) (fun X hX hT => ?_)
  have hX : OK X D cX9_parse "TeaHouseModel" 1 := hX
  have hT : RT X l D none (P2 (Pv L K)) 6 0 0 := hT
  have hR := hT.room
  change J2 X D 1 0 0 I L 0 [.ref 190] []
  rw [f_X9_parse] at h
  refine q_aload_n hX dX9_parse_0 rfl ?_
  refine q_iconst hX dX9_parse_1 (v := (nI 0)) (by decide) ?_
  replace h := wr_e h
  refine q_putI hX pf_X9_192 rfl dX9_parse_2 (at_of (n := 0) rfl) rfl rfl ?_
  generalize up2 _ _ _ _ = I1 at h ⊢
  refine q_aload_n hX dX9_parse_5 rfl ?_
  refine q_iconst hX dX9_parse_6 (v := (-1)) (by decide) ?_
  replace h := wr_e h
  refine q_putI hX pf_X9_195 rfl dX9_parse_7 (at_of (n := 0) rfl) rfl rfl ?_
  generalize up2 _ _ _ _ = I2 at h ⊢
  refine q_aload_n hX dX9_parse_10 rfl ?_
  refine q_iconst hX dX9_parse_11 (v := (nI 0)) (by decide) ?_
  replace h := wr_e h
  refine q_putI hX pf_X9_207 rfl dX9_parse_12 (at_of (n := 0) rfl) rfl rfl ?_
  generalize up2 _ _ _ _ = I3 at h ⊢
  refine q_aload_n hX dX9_parse_15 rfl ?_
  refine q_V_v hX hR (w_X9_command  h) lk_X9_216 (rc2_of (ci := 10) rfl rfl) dX9_parse_16 rfl rfl (Nat.le_of_ble_eq_true rfl) (by omega) (by omega) (by omega) ?_
  intro I4 h
  exact q_dr (w_X9_parse_b19 hX hT  (fun _ h => w_X9_parse_b52 hX hT    _  h) _  _  h) ⟨Or.inl rfl, trivial⟩
