set_option maxRecDepth 100000 in
set_option maxHeartbeats 4000000 in
theorem w_X9_heats_b228 {X : XT} {D : DT} {l : Launch} {L : LT} {a1 : Int32} {K : Int32 → IT → Prop} (hX : OK X D cX9_heats "TeaHouseModel" 7) (hT : RT X l D (some .int) (P2 (Pi L K)) 2 0 0)   : ∀ (v5 : Int32) (I : IT), isZ v5 → isC v5 → f_X9_heats_b228 a1 K v5 I → J2 X D 7 0 0 I L 228 [.retAddr 0, .retAddr 0, .retAddr 0, .retAddr 0, .retAddr 0, .int v5, .retAddr 0] [] := by
  have hR := hT.room
  intro v5 I hzv5 hcv5 h
  rw [f_X9_heats_b228] at h
  refine q_iload hX dX9_heats_228 rfl ?_
  refine q_if_eq hX dX9_heats_230 (tgt := 237) (by decide) (fun q1 => ?_) (fun q1 => ?_)
  · replace h := ite_t q1 h
    refine q_iconst hX dX9_heats_237 (v := (nI 0)) (by decide) ?_
    exact q_iret hX hT dX9_heats_238 h
  · replace h := ite_f q1 h
    refine q_iconst hX dX9_heats_233 (v := (nI 1)) (by decide) ?_
    refine q_goto hX dX9_heats_234 (tgt := 238) (by decide) ?_
    exact q_iret hX hT dX9_heats_238 h
set_option maxRecDepth 100000 in
set_option maxHeartbeats 4000000 in
theorem w_X9_heats_b223 {X : XT} {D : DT} {l : Launch} {L : LT} {a1 : Int32} {K : Int32 → IT → Prop} (hX : OK X D cX9_heats "TeaHouseModel" 7) (hT : RT X l D (some .int) (P2 (Pi L K)) 2 0 0)   : ∀ (v5 : Int32) (s1 : Int32) (I : IT), isZ v5 → isC v5 → isC s1 → f_X9_heats_b223 a1 K v5 s1 I → J2 X D 7 0 0 I L 223 [.retAddr 0, .retAddr 0, .retAddr 0, .retAddr 0, .retAddr 0, .int v5, .retAddr 0] [.int s1, .ref 191] := by
  have hR := hT.room
  intro v5 s1 I hzv5 hcv5 hcs1 h
  rw [f_X9_heats_b223] at h
  refine q_dup2 hX dX9_heats_223 rfl rfl ?_
  obtain ⟨z1, h⟩ := h
  refine q_iald hX dX9_heats_224 (at_of (a := 191) (t := 22) (n := 1236) rfl) (inr_e z1) (inr_lt z1) (by decide) ?_
  refine q_iconst hX dX9_heats_225 (v := (nI 1)) (by decide) ?_
  refine q_iadd hX dX9_heats_226 ?_
  replace h := wr_e h
  refine q_iast hX dX9_heats_227 (at_of (a := 191) (t := 22) (n := 1236) rfl) (inr_e z1) (inr_lt z1) (by decide) rfl ?_
  generalize up2 _ _ _ _ = I2 at h ⊢
  exact q_dr (w_X9_heats_b228 hX hT    _ _ hzv5 hcv5 h) ⟨Or.inl rfl, Or.inl rfl, Or.inl rfl, Or.inl rfl, Or.inl rfl, Or.inl rfl, Or.inl rfl, trivial⟩
set_option maxRecDepth 100000 in
set_option maxHeartbeats 4000000 in
theorem w_X9_heats_b196 {X : XT} {D : DT} {l : Launch} {L : LT} {a1 : Int32} {K : Int32 → IT → Prop} (hX : OK X D cX9_heats "TeaHouseModel" 7) (hT : RT X l D (some .int) (P2 (Pi L K)) 2 0 0)   : ∀ (v5 : Int32) (I : IT), isZ v5 → isC v5 → f_X9_heats_b196 a1 K v5 I → J2 X D 7 0 0 I L 196 [.ref 190, .retAddr 0, .retAddr 0, .retAddr 0, .retAddr 0, .int v5, .retAddr 0] [] := by
  have hR := hT.room
  intro v5 I hzv5 hcv5 h
  rw [f_X9_heats_b196] at h
  refine q_iload hX dX9_heats_196 rfl ?_
  refine q_if_eq hX dX9_heats_198 (tgt := 228) (by decide) (fun q1 => ?_) (fun q1 => ?_)
  · replace h := ite_t q1 h
    exact q_dr (w_X9_heats_b228 hX hT    _ _ hzv5 hcv5 h) ⟨Or.inr rfl, Or.inl rfl, Or.inl rfl, Or.inl rfl, Or.inl rfl, Or.inl rfl, Or.inl rfl, trivial⟩
  · replace h := ite_f q1 h
    refine q_aload_n hX dX9_heats_201 rfl ?_
    refine q_getR hX gf_X9_9 rfl dX9_heats_202 (at_of (n := 0) rfl) (b := 191) rfl ?_
    refine q_aload_n hX dX9_heats_205 rfl ?_
    refine q_getR hX gf_X9_9 rfl dX9_heats_206 (at_of (n := 0) rfl) (b := 191) rfl ?_
    refine q_bipush hX dX9_heats_209 (v := (nI 11)) (by decide) ?_
    refine q_iald hX dX9_heats_211 (at_of (a := 191) (t := 22) (n := 1236) rfl) (j := 11) rfl (by decide) (by decide) ?_
    refine q_iconst hX dX9_heats_212 (v := (nI 1)) (by decide) ?_
    refine q_icmp_ne hX dX9_heats_213 (tgt := 221) (by decide) (fun q2 => ?_) (fun q2 => ?_)
    · replace h := ite_f q2 h
      refine q_bipush hX dX9_heats_221 (v := (nI 16)) (by decide) ?_
      exact q_dr (w_X9_heats_b223 hX hT    _ _ _ hzv5 hcv5 (isC_n (by decide)) h) ⟨Or.inr rfl, Or.inl rfl, Or.inl rfl, Or.inl rfl, Or.inl rfl, Or.inl rfl, Or.inl rfl, trivial⟩
    · replace h := ite_t q2 h
      refine q_bipush hX dX9_heats_216 (v := (nI 15)) (by decide) ?_
      refine q_goto hX dX9_heats_218 (tgt := 223) (by decide) ?_
      exact q_dr (w_X9_heats_b223 hX hT    _ _ _ hzv5 hcv5 (isC_n (by decide)) h) ⟨Or.inr rfl, Or.inl rfl, Or.inl rfl, Or.inl rfl, Or.inl rfl, Or.inl rfl, Or.inl rfl, trivial⟩
set_option maxRecDepth 100000 in
set_option maxHeartbeats 4000000 in
theorem w_X9_heats_b156 {X : XT} {D : DT} {l : Launch} {L : LT} {a1 : Int32} {K : Int32 → IT → Prop} (hX : OK X D cX9_heats "TeaHouseModel" 7) (hT : RT X l D (some .int) (P2 (Pi L K)) 2 0 0)   : ∀ (v5 : Int32) (s0 : Int32) (I : IT), isZ v5 → isC v5 → f_X9_heats_b156 a1 K v5 s0 I → J2 X D 7 0 0 I L 156 [.ref 190, .int a1, .retAddr 0, .retAddr 0, .retAddr 0, .int v5, .retAddr 0] [.int s0] := by
  have hR := hT.room
  intro v5 s0 I hzv5 hcv5 h
  rw [f_X9_heats_b156] at h
  refine q_istore hX dX9_heats_156 (by decide) (ls' := [_, _, _, _, _, _, _]) rfl ?_
  refine q_aload_n hX dX9_heats_158 rfl ?_
  refine q_iload_n hX dX9_heats_159 rfl ?_
  refine q_iconst hX dX9_heats_160 (v := (nI 1)) (by decide) ?_
  refine q_aload_n hX dX9_heats_161 rfl ?_
  refine q_iload_n hX dX9_heats_162 rfl ?_
  refine q_iconst hX dX9_heats_163 (v := (nI 1)) (by decide) ?_
  refine q_V_ip hX hR (w_X9_k  h) lk_X9_60 (rc2_of (ci := 10) rfl rfl) dX9_heats_164 rfl rfl (Nat.le_of_ble_eq_true rfl) (by omega) (by omega) (by omega) ?_
  intro x1 h
  refine q_iload hX dX9_heats_167 rfl ?_
  refine q_isub hX dX9_heats_169 ?_
  refine q_V_v hX hR (w_X9_set  h) lk_X9_63 (rc2_of (ci := 10) rfl rfl) dX9_heats_170 rfl rfl (Nat.le_of_ble_eq_true rfl) (by omega) (by omega) (by omega) ?_
  intro I2 h
  refine q_aload_n hX dX9_heats_173 rfl ?_
  refine q_getR hX gf_X9_9 rfl dX9_heats_174 (at_of (n := 0) rfl) (b := 191) rfl ?_
  refine q_iconst hX dX9_heats_177 (v := (nI 5)) (by decide) ?_
  refine q_dup2 hX dX9_heats_178 rfl rfl ?_
  refine q_iald hX dX9_heats_179 (at_of (a := 191) (t := 22) (n := 1236) rfl) (j := 5) rfl (by decide) (by decide) ?_
  refine q_iload hX dX9_heats_180 rfl ?_
  refine q_iadd hX dX9_heats_182 ?_
  replace h := wr_e h
  refine q_iast hX dX9_heats_183 (at_of (a := 191) (t := 22) (n := 1236) rfl) (j := 5) rfl (by decide) (by decide) rfl ?_
  generalize up2 _ _ _ _ = I3 at h ⊢
  refine q_aload_n hX dX9_heats_184 rfl ?_
  refine q_getR hX gf_X9_9 rfl dX9_heats_185 (at_of (n := 0) rfl) (b := 191) rfl ?_
  refine q_bipush hX dX9_heats_188 (v := (nI 6)) (by decide) ?_
  refine q_dup2 hX dX9_heats_190 rfl rfl ?_
  refine q_iald hX dX9_heats_191 (at_of (a := 191) (t := 22) (n := 1236) rfl) (j := 6) rfl (by decide) (by decide) ?_
  refine q_iload hX dX9_heats_192 rfl ?_
  refine q_iadd hX dX9_heats_194 ?_
  replace h := wr_e h
  refine q_iast hX dX9_heats_195 (at_of (a := 191) (t := 22) (n := 1236) rfl) (j := 6) rfl (by decide) (by decide) rfl ?_
  generalize up2 _ _ _ _ = I4 at h ⊢
  exact q_dr (w_X9_heats_b196 hX hT    _ _ hzv5 hcv5 h) ⟨Or.inl rfl, Or.inr rfl, Or.inl rfl, Or.inl rfl, Or.inl rfl, Or.inl rfl, Or.inr rfl, trivial⟩
set_option maxRecDepth 100000 in
set_option maxHeartbeats 4000000 in
theorem w_X9_heats_b128 {X : XT} {D : DT} {l : Launch} {L : LT} {a1 : Int32} {K : Int32 → IT → Prop} (hX : OK X D cX9_heats "TeaHouseModel" 7) (hT : RT X l D (some .int) (P2 (Pi L K)) 2 0 0)   : ∀ (v2 : Int32) (v4 : Int32) (v5 : Int32) (s3 : Int32) (I : IT), isZ v4 → isC v4 → isZ v5 → isC v5 → isZ s3 → isC s3 → f_X9_heats_b128 a1 K v2 v4 v5 s3 I → J2 X D 7 0 0 I L 128 [.ref 190, .int a1, .int v2, .retAddr 0, .int v4, .int v5, .retAddr 0] [.int s3, .int (nI 4), .int a1, .ref 190] := by
  have hR := hT.room
  intro v2 v4 v5 s3 I hzv4 hcv4 hzv5 hcv5 hzs3 hcs3 h
  rw [f_X9_heats_b128] at h
  refine q_V_v hX hR (w_X9_set  h) lk_X9_63 (rc2_of (ci := 10) rfl rfl) dX9_heats_128 rfl rfl (Nat.le_of_ble_eq_true rfl) (by omega) (by omega) (by omega) ?_
  intro I1 h
  refine q_iload hX dX9_heats_131 rfl ?_
  refine q_if_eq hX dX9_heats_133 (tgt := 196) (by decide) (fun q2 => ?_) (fun q2 => ?_)
  · replace h := ite_t q2 h
    exact q_dr (w_X9_heats_b196 hX hT    _ _ hzv5 hcv5 h) ⟨Or.inl rfl, Or.inr rfl, Or.inr rfl, Or.inl rfl, Or.inr rfl, Or.inl rfl, Or.inl rfl, trivial⟩
  · replace h := ite_f q2 h
    refine q_iload_n hX dX9_heats_136 rfl ?_
    refine q_aload_n hX dX9_heats_137 rfl ?_
    refine q_iload_n hX dX9_heats_138 rfl ?_
    refine q_iconst hX dX9_heats_139 (v := (nI 1)) (by decide) ?_
    refine q_V_ip hX hR (w_X9_k  h) lk_X9_60 (rc2_of (ci := 10) rfl rfl) dX9_heats_140 rfl rfl (Nat.le_of_ble_eq_true rfl) (by omega) (by omega) (by omega) ?_
    intro x3 h
    refine q_icmp_ge hX dX9_heats_143 (tgt := 150) (by decide) (fun q4 => ?_) (fun q4 => ?_)
    · replace h := ite_t q4 h
      refine q_aload_n hX dX9_heats_150 rfl ?_
      refine q_iload_n hX dX9_heats_151 rfl ?_
      refine q_iconst hX dX9_heats_152 (v := (nI 1)) (by decide) ?_
      refine q_V_ip hX hR (w_X9_k  h) lk_X9_60 (rc2_of (ci := 10) rfl rfl) dX9_heats_153 rfl rfl (Nat.le_of_ble_eq_true rfl) (by omega) (by omega) (by omega) ?_
      intro x5 h
      exact q_dr (w_X9_heats_b156 hX hT    _ _ _ hzv5 hcv5 h) ⟨Or.inl rfl, Or.inl rfl, Or.inr rfl, Or.inl rfl, Or.inr rfl, Or.inl rfl, Or.inl rfl, trivial⟩
    · replace h := ite_f q4 h
      refine q_iload_n hX dX9_heats_146 rfl ?_
      refine q_goto hX dX9_heats_147 (tgt := 156) (by decide) ?_
      exact q_dr (w_X9_heats_b156 hX hT    _ _ _ hzv5 hcv5 h) ⟨Or.inl rfl, Or.inl rfl, Or.inr rfl, Or.inl rfl, Or.inr rfl, Or.inl rfl, Or.inl rfl, trivial⟩
set_option maxRecDepth 100000 in
set_option maxHeartbeats 4000000 in
theorem w_X9_heats_b113 {X : XT} {D : DT} {l : Launch} {L : LT} {a1 : Int32} {K : Int32 → IT → Prop} (hX : OK X D cX9_heats "TeaHouseModel" 7) (hT : RT X l D (some .int) (P2 (Pi L K)) 2 0 0)   : ∀ (v2 : Int32) (v4 : Int32) (s0 : Int32) (I : IT), isZ v4 → isC v4 → isZ s0 → isC s0 → f_X9_heats_b113 a1 K v2 v4 s0 I → J2 X D 7 0 0 I L 113 [.ref 190, .int a1, .int v2, .retAddr 0, .int v4, .retAddr 0, .retAddr 0] [.int s0] := by
  have hR := hT.room
  intro v2 v4 s0 I hzv4 hcv4 hzs0 hcs0 h
  rw [f_X9_heats_b113] at h
  refine q_istore hX dX9_heats_113 (by decide) (ls' := [_, _, _, _, _, _, _]) rfl ?_
  refine q_aload_n hX dX9_heats_115 rfl ?_
  refine q_iload_n hX dX9_heats_116 rfl ?_
  refine q_iconst hX dX9_heats_117 (v := (nI 4)) (by decide) ?_
  refine q_iload hX dX9_heats_118 rfl ?_
  refine q_if_eq hX dX9_heats_120 (tgt := 127) (by decide) (fun q1 => ?_) (fun q1 => ?_)
  · replace h := ite_t q1 h
    refine q_iconst hX dX9_heats_127 (v := (nI 0)) (by decide) ?_
    exact q_dr (w_X9_heats_b128 hX hT    _ _ _ _ _ hzv4 hcv4 hzs0 hcs0 (Or.inl rfl) (isC_n (by decide)) h) ⟨Or.inl rfl, Or.inl rfl, Or.inl rfl, Or.inl rfl, Or.inl rfl, Or.inl rfl, Or.inl rfl, trivial⟩
  · replace h := ite_f q1 h
    refine q_iconst hX dX9_heats_123 (v := (nI 1)) (by decide) ?_
    refine q_goto hX dX9_heats_124 (tgt := 128) (by decide) ?_
    exact q_dr (w_X9_heats_b128 hX hT    _ _ _ _ _ hzv4 hcv4 hzs0 hcs0 (Or.inr rfl) (isC_n (by decide)) h) ⟨Or.inl rfl, Or.inl rfl, Or.inl rfl, Or.inl rfl, Or.inl rfl, Or.inl rfl, Or.inl rfl, trivial⟩
set_option maxRecDepth 100000 in
set_option maxHeartbeats 4000000 in
theorem w_X9_heats_b112 {X : XT} {D : DT} {l : Launch} {L : LT} {a1 : Int32} {K : Int32 → IT → Prop} (hX : OK X D cX9_heats "TeaHouseModel" 7) (hT : RT X l D (some .int) (P2 (Pi L K)) 2 0 0)   : ∀ (v2 : Int32) (v4 : Int32) (I : IT), isZ v4 → isC v4 → f_X9_heats_b112 a1 K v2 v4 I → J2 X D 7 0 0 I L 112 [.ref 190, .int a1, .int v2, .retAddr 0, .int v4, .retAddr 0, .retAddr 0] [] := by
  have hR := hT.room
  intro v2 v4 I hzv4 hcv4 h
  rw [f_X9_heats_b112] at h
  refine q_iconst hX dX9_heats_112 (v := (nI 0)) (by decide) ?_
  exact q_dr (w_X9_heats_b113 hX hT    _ _ _ _ hzv4 hcv4 (Or.inl rfl) (isC_n (by decide)) h) ⟨Or.inl rfl, Or.inl rfl, Or.inl rfl, Or.inl rfl, Or.inl rfl, Or.inl rfl, Or.inl rfl, trivial⟩
set_option maxRecDepth 100000 in
set_option maxHeartbeats 4000000 in
theorem w_X9_heats_b92 {X : XT} {D : DT} {l : Launch} {L : LT} {a1 : Int32} {K : Int32 → IT → Prop} (hX : OK X D cX9_heats "TeaHouseModel" 7) (hT : RT X l D (some .int) (P2 (Pi L K)) 2 0 0)   : ∀ (v2 : Int32) (s0 : Int32) (I : IT), isZ s0 → isC s0 → f_X9_heats_b92 a1 K v2 s0 I → J2 X D 7 0 0 I L 92 [.ref 190, .int a1, .int v2, .retAddr 0, .retAddr 0, .retAddr 0, .retAddr 0] [.int s0] := by
  have hR := hT.room
  intro v2 s0 I hzs0 hcs0 h
  rw [f_X9_heats_b92] at h
  refine q_istore hX dX9_heats_92 (by decide) (ls' := [_, _, _, _, _, _, _]) rfl ?_
  refine q_iload hX dX9_heats_94 rfl ?_
  refine q_if_eq hX dX9_heats_96 (tgt := 112) (by decide) (fun q1 => ?_) (fun q1 => ?_)
  · replace h := ite_t q1 h
    exact q_dr (w_X9_heats_b112 hX hT    _ _ _ hzs0 hcs0 h) ⟨Or.inl rfl, Or.inl rfl, Or.inl rfl, Or.inl rfl, Or.inl rfl, Or.inl rfl, Or.inl rfl, trivial⟩
  · replace h := ite_f q1 h
    refine q_aload_n hX dX9_heats_99 rfl ?_
    refine q_iload_n hX dX9_heats_100 rfl ?_
    refine q_iconst hX dX9_heats_101 (v := (nI 4)) (by decide) ?_
    refine q_V_ip hX hR (w_X9_k  h) lk_X9_60 (rc2_of (ci := 10) rfl rfl) dX9_heats_102 rfl rfl (Nat.le_of_ble_eq_true rfl) (by omega) (by omega) (by omega) ?_
    intro x2 h
    refine q_if_ne hX dX9_heats_105 (tgt := 112) (by decide) (fun q3 => ?_) (fun q3 => ?_)
    · replace h := ite_f q3 h
      exact q_dr (w_X9_heats_b112 hX hT    _ _ _ hzs0 hcs0 h) ⟨Or.inl rfl, Or.inl rfl, Or.inl rfl, Or.inl rfl, Or.inl rfl, Or.inl rfl, Or.inl rfl, trivial⟩
    · replace h := ite_t q3 h
      refine q_iconst hX dX9_heats_108 (v := (nI 1)) (by decide) ?_
      refine q_goto hX dX9_heats_109 (tgt := 113) (by decide) ?_
      exact q_dr (w_X9_heats_b113 hX hT    _ _ _ _ hzs0 hcs0 (Or.inr rfl) (isC_n (by decide)) h) ⟨Or.inl rfl, Or.inl rfl, Or.inl rfl, Or.inl rfl, Or.inl rfl, Or.inl rfl, Or.inl rfl, trivial⟩
set_option maxRecDepth 100000 in
set_option maxHeartbeats 4000000 in
theorem w_X9_heats_b91 {X : XT} {D : DT} {l : Launch} {L : LT} {a1 : Int32} {K : Int32 → IT → Prop} (hX : OK X D cX9_heats "TeaHouseModel" 7) (hT : RT X l D (some .int) (P2 (Pi L K)) 2 0 0)   : ∀ (v2 : Int32) (I : IT), f_X9_heats_b91 a1 K v2 I → J2 X D 7 0 0 I L 91 [.ref 190, .int a1, .int v2, .retAddr 0, .retAddr 0, .retAddr 0, .retAddr 0] [] := by
  have hR := hT.room
  intro v2 I h
  rw [f_X9_heats_b91] at h
  refine q_iconst hX dX9_heats_91 (v := (nI 0)) (by decide) ?_
  exact q_dr (w_X9_heats_b92 hX hT    _ _ _ (Or.inl rfl) (isC_n (by decide)) h) ⟨Or.inl rfl, Or.inl rfl, Or.inl rfl, Or.inl rfl, Or.inl rfl, Or.inl rfl, Or.inl rfl, trivial⟩
set_option maxRecDepth 100000 in
set_option maxHeartbeats 4000000 in
theorem w_X9_heats_b59 {X : XT} {D : DT} {l : Launch} {L : LT} {a1 : Int32} {K : Int32 → IT → Prop} (hX : OK X D cX9_heats "TeaHouseModel" 7) (hT : RT X l D (some .int) (P2 (Pi L K)) 2 0 0)   : ∀ (v2 : Int32) (s0 : Int32) (I : IT), f_X9_heats_b59 a1 K v2 s0 I → J2 X D 7 0 0 I L 59 [.ref 190, .int a1, .int v2, .retAddr 0, .retAddr 0, .retAddr 0, .retAddr 0] [.int s0] := by
  have hR := hT.room
  intro v2 s0 I h
  rw [f_X9_heats_b59] at h
  refine q_istore_n hX dX9_heats_59 (by decide) (ls' := [_, _, _, _, _, _, _]) rfl ?_
  refine q_aload_n hX dX9_heats_60 rfl ?_
  refine q_iload_n hX dX9_heats_61 rfl ?_
  refine q_iconst hX dX9_heats_62 (v := (nI 2)) (by decide) ?_
  refine q_iload_n hX dX9_heats_63 rfl ?_
  refine q_V_v hX hR (w_X9_set  h) lk_X9_63 (rc2_of (ci := 10) rfl rfl) dX9_heats_64 rfl rfl (Nat.le_of_ble_eq_true rfl) (by omega) (by omega) (by omega) ?_
  intro I1 h
  refine q_aload_n hX dX9_heats_67 rfl ?_
  refine q_iload_n hX dX9_heats_68 rfl ?_
  refine q_iconst hX dX9_heats_69 (v := (nI 1)) (by decide) ?_
  refine q_V_ip hX hR (w_X9_k  h) lk_X9_60 (rc2_of (ci := 10) rfl rfl) dX9_heats_70 rfl rfl (Nat.le_of_ble_eq_true rfl) (by omega) (by omega) (by omega) ?_
  intro x2 h
  refine q_if_le hX dX9_heats_73 (tgt := 91) (by decide) (fun q3 => ?_) (fun q3 => ?_)
  · replace h := ite_t q3 h
    exact q_dr (w_X9_heats_b91 hX hT    _ _  h) ⟨Or.inl rfl, Or.inl rfl, Or.inl rfl, Or.inr rfl, Or.inl rfl, Or.inl rfl, Or.inl rfl, trivial⟩
  · replace h := ite_f q3 h
    refine q_iload_n hX dX9_heats_76 rfl ?_
    refine q_sipush hX dX9_heats_77 (v := (nI 200)) (by decide) ?_
    refine q_icmp_ne hX dX9_heats_80 (tgt := 91) (by decide) (fun q4 => ?_) (fun q4 => ?_)
    · replace h := ite_f q4 h
      exact q_dr (w_X9_heats_b91 hX hT    _ _  h) ⟨Or.inl rfl, Or.inl rfl, Or.inl rfl, Or.inr rfl, Or.inl rfl, Or.inl rfl, Or.inl rfl, trivial⟩
    · replace h := ite_t q4 h
      refine q_iload_n hX dX9_heats_83 rfl ?_
      refine q_if_le hX dX9_heats_84 (tgt := 91) (by decide) (fun q5 => ?_) (fun q5 => ?_)
      · replace h := ite_t q5 h
        exact q_dr (w_X9_heats_b91 hX hT    _ _  h) ⟨Or.inl rfl, Or.inl rfl, Or.inl rfl, Or.inr rfl, Or.inl rfl, Or.inl rfl, Or.inl rfl, trivial⟩
      · replace h := ite_f q5 h
        refine q_iconst hX dX9_heats_87 (v := (nI 1)) (by decide) ?_
        refine q_goto hX dX9_heats_88 (tgt := 92) (by decide) ?_
        exact q_dr (w_X9_heats_b92 hX hT    _ _ _ (Or.inr rfl) (isC_n (by decide)) h) ⟨Or.inl rfl, Or.inl rfl, Or.inl rfl, Or.inr rfl, Or.inl rfl, Or.inl rfl, Or.inl rfl, trivial⟩
set_option maxRecDepth 100000 in
set_option maxHeartbeats 4000000 in
theorem w_X9_heats_b33 {X : XT} {D : DT} {l : Launch} {L : LT} {a1 : Int32} {K : Int32 → IT → Prop} (hX : OK X D cX9_heats "TeaHouseModel" 7) (hT : RT X l D (some .int) (P2 (Pi L K)) 2 0 0)   : ∀ (v2 : Int32) (s0 : Int32) (I : IT), f_X9_heats_b33 a1 K v2 s0 I → J2 X D 7 0 0 I L 33 [.ref 190, .int a1, .int v2, .retAddr 0, .retAddr 0, .retAddr 0, .retAddr 0] [.int s0] := by
  have hR := hT.room
  intro v2 s0 I h
  rw [f_X9_heats_b33] at h
  refine q_istore_n hX dX9_heats_33 (by decide) (ls' := [_, _, _, _, _, _, _]) rfl ?_
  refine q_iload_n hX dX9_heats_34 rfl ?_
  refine q_bipush hX dX9_heats_35 (v := (nI 40)) (by decide) ?_
  refine q_icmp_ge hX dX9_heats_37 (tgt := 45) (by decide) (fun q1 => ?_) (fun q1 => ?_)
  · replace h := ite_t q1 h
    refine q_iload_n hX dX9_heats_45 rfl ?_
    refine q_sipush hX dX9_heats_46 (v := (nI 200)) (by decide) ?_
    refine q_icmp_le hX dX9_heats_49 (tgt := 58) (by decide) (fun q2 => ?_) (fun q2 => ?_)
    · replace h := ite_t q2 h
      refine q_iload_n hX dX9_heats_58 rfl ?_
      exact q_dr (w_X9_heats_b59 hX hT    _ _ _  h) ⟨Or.inl rfl, Or.inl rfl, Or.inl rfl, Or.inr rfl, Or.inl rfl, Or.inl rfl, Or.inl rfl, trivial⟩
    · replace h := ite_f q2 h
      refine q_sipush hX dX9_heats_52 (v := (nI 200)) (by decide) ?_
      refine q_goto hX dX9_heats_55 (tgt := 59) (by decide) ?_
      exact q_dr (w_X9_heats_b59 hX hT    _ _ _  h) ⟨Or.inl rfl, Or.inl rfl, Or.inl rfl, Or.inr rfl, Or.inl rfl, Or.inl rfl, Or.inl rfl, trivial⟩
  · replace h := ite_f q1 h
    refine q_bipush hX dX9_heats_40 (v := (nI 40)) (by decide) ?_
    refine q_goto hX dX9_heats_42 (tgt := 59) (by decide) ?_
    exact q_dr (w_X9_heats_b59 hX hT    _ _ _  h) ⟨Or.inl rfl, Or.inl rfl, Or.inl rfl, Or.inr rfl, Or.inl rfl, Or.inl rfl, Or.inl rfl, trivial⟩
set_option maxRecDepth 100000 in
set_option maxHeartbeats 4000000 in
theorem w_X9_heats {l : Launch} {D : DT} {L : LT} {a1 : Int32} {I : IT} {K : Int32 → IT → Prop}  (h : f_X9_heats a1 I K) : Con2 l D m_X9_heats 2 [.ref 190, .int a1] 0 0 I L (Pi L K) := by
  refine Con2.of (by decide +kernel) (by simp [Value.category]) (Nat.le_of_ble_eq_true rfl) (fun X hX hT => ?_)
  have hX : OK X D cX9_heats "TeaHouseModel" 7 := hX
  have hT : RT X l D (some .int) (P2 (Pi L K)) 2 0 0 := hT
  have hR := hT.room
  change J2 X D 7 0 0 I L 0 [.ref 190, .int a1, .retAddr 0, .retAddr 0, .retAddr 0, .retAddr 0, .retAddr 0] []
  rw [f_X9_heats] at h
  refine q_aload_n hX dX9_heats_0 rfl ?_
  refine q_iload_n hX dX9_heats_1 rfl ?_
  refine q_iconst hX dX9_heats_2 (v := (nI 3)) (by decide) ?_
  refine q_V_ip hX hR (w_X9_k  h) lk_X9_60 (rc2_of (ci := 10) rfl rfl) dX9_heats_3 rfl rfl (Nat.le_of_ble_eq_true rfl) (by omega) (by omega) (by omega) ?_
  intro x1 h
  refine q_istore_n hX dX9_heats_6 (by decide) (ls' := [_, _, _, _, _, _, _]) rfl ?_
  refine q_aload_n hX dX9_heats_7 rfl ?_
  refine q_iload_n hX dX9_heats_8 rfl ?_
  refine q_iconst hX dX9_heats_9 (v := (nI 1)) (by decide) ?_
  refine q_V_ip hX hR (w_X9_k  h) lk_X9_60 (rc2_of (ci := 10) rfl rfl) dX9_heats_10 rfl rfl (Nat.le_of_ble_eq_true rfl) (by omega) (by omega) (by omega) ?_
  intro x2 h
  refine q_if_ne hX dX9_heats_13 (tgt := 21) (by decide) (fun q3 => ?_) (fun q3 => ?_)
  · replace h := ite_f q3 h
    refine q_aload_n hX dX9_heats_21 rfl ?_
    refine q_iload_n hX dX9_heats_22 rfl ?_
    refine q_iconst hX dX9_heats_23 (v := (nI 2)) (by decide) ?_
    refine q_V_ip hX hR (w_X9_k  h) lk_X9_60 (rc2_of (ci := 10) rfl rfl) dX9_heats_24 rfl rfl (Nat.le_of_ble_eq_true rfl) (by omega) (by omega) (by omega) ?_
    intro x4 h
    refine q_iconst hX dX9_heats_27 (v := (nI 3)) (by decide) ?_
    refine q_iload_n hX dX9_heats_28 rfl ?_
    refine q_imul hX dX9_heats_29 ?_
    refine q_iadd hX dX9_heats_30 ?_
    refine q_iconst hX dX9_heats_31 (v := (nI 1)) (by decide) ?_
    refine q_isub hX dX9_heats_32 ?_
    exact q_dr (w_X9_heats_b33 hX hT    _ _ _  h) ⟨Or.inl rfl, Or.inl rfl, Or.inl rfl, Or.inl rfl, Or.inl rfl, Or.inl rfl, Or.inl rfl, trivial⟩
  · replace h := ite_t q3 h
    refine q_bipush hX dX9_heats_16 (v := (nI 40)) (by decide) ?_
    refine q_goto hX dX9_heats_18 (tgt := 33) (by decide) ?_
    exact q_dr (w_X9_heats_b33 hX hT    _ _ _  h) ⟨Or.inl rfl, Or.inl rfl, Or.inl rfl, Or.inl rfl, Or.inl rfl, Or.inl rfl, Or.inl rfl, trivial⟩
set_option maxRecDepth 100000 in
set_option maxHeartbeats 4000000 in
theorem w_X9_adds_b46 {X : XT} {D : DT} {l : Launch} {L : LT} {a1 : Int32} {K : Int32 → IT → Prop} (hX : OK X D cX9_adds "TeaHouseModel" 3) (hT : RT X l D (some .int) (P2 (Pi L K)) 2 0 0)   : ∀ (n : Nat), ∀ (v2 : Int32) (I : IT), f_X9_adds_b46 a1 K n v2 I → J2 X D 3 0 0 I L 46 [.ref 190, .int a1, .int v2] [] := by
  have hR := hT.room
  intro n
  induction n with
  | zero => intro v2 I h; exact False.elim h
  | succ n ih =>
    intro v2 I h
    rw [f_X9_adds_b46] at h
    refine q_iload_n hX dX9_adds_46 rfl ?_
    refine q_iconst hX dX9_adds_47 (v := (nI 5)) (by decide) ?_
    refine q_icmp_ge hX dX9_adds_48 (tgt := 67) (by decide) (fun q1 => ?_) (fun q1 => ?_)
    · replace h := ite_t q1 h
      refine q_aload_n hX dX9_adds_67 rfl ?_
      refine q_aload_n hX dX9_adds_68 rfl ?_
      refine q_getI hX gf_X9_40 rfl dX9_adds_69 (at_of (n := 0) rfl) ?_
      refine q_iconst hX dX9_adds_72 (v := (nI 0)) (by decide) ?_
      refine q_iconst hX dX9_adds_73 (v := (nI 2)) (by decide) ?_
      refine q_iload_n hX dX9_adds_74 rfl ?_
      refine q_imul hX dX9_adds_75 ?_
      refine q_V_v hX hR (w_X9_set  h) lk_X9_63 (rc2_of (ci := 10) rfl rfl) dX9_adds_76 rfl rfl (Nat.le_of_ble_eq_true rfl) (by omega) (by omega) (by omega) ?_
      intro I2 h
      refine q_aload_n hX dX9_adds_79 rfl ?_
      refine q_aload_n hX dX9_adds_80 rfl ?_
      refine q_getI hX gf_X9_40 rfl dX9_adds_81 (at_of (n := 0) rfl) ?_
      refine q_iconst hX dX9_adds_84 (v := (nI 2)) (by decide) ?_
      refine q_bipush hX dX9_adds_85 (v := (nI 40)) (by decide) ?_
      refine q_V_v hX hR (w_X9_set  h) lk_X9_63 (rc2_of (ci := 10) rfl rfl) dX9_adds_87 rfl rfl (Nat.le_of_ble_eq_true rfl) (by omega) (by omega) (by omega) ?_
      intro I3 h
      refine q_iconst hX dX9_adds_90 (v := (nI 0)) (by decide) ?_
      exact q_iret hX hT dX9_adds_91 h
    · replace h := ite_f q1 h
      refine q_aload_n hX dX9_adds_51 rfl ?_
      refine q_aload_n hX dX9_adds_52 rfl ?_
      refine q_getI hX gf_X9_40 rfl dX9_adds_53 (at_of (n := 0) rfl) ?_
      refine q_iload_n hX dX9_adds_56 rfl ?_
      refine q_iconst hX dX9_adds_57 (v := (nI 0)) (by decide) ?_
      refine q_V_v hX hR (w_X9_set  h) lk_X9_63 (rc2_of (ci := 10) rfl rfl) dX9_adds_58 rfl rfl (Nat.le_of_ble_eq_true rfl) (by omega) (by omega) (by omega) ?_
      intro I4 h
      replace h := bnd_e h
      refine q_iinc hX dX9_adds_61 (by decide) rfl (v := _ + nI 1) (ls' := [_, _, _]) rfl rfl ?_
      refine q_goto hX dX9_adds_64 (tgt := 46) (by decide) ?_
      exact q_dr (ih _ _  h) ⟨Or.inl rfl, Or.inl rfl, Or.inl rfl, trivial⟩
set_option maxRecDepth 100000 in
set_option maxHeartbeats 4000000 in
theorem w_X9_adds {l : Launch} {D : DT} {L : LT} {a1 : Int32} {I : IT} {K : Int32 → IT → Prop}  (h : f_X9_adds a1 I K) : Con2 l D m_X9_adds 2 [.ref 190, .int a1] 0 0 I L (Pi L K) := by
  refine Con2.of (by decide +kernel) (by simp [Value.category]) (Nat.le_of_ble_eq_true rfl) (fun X hX hT => ?_)
  have hX : OK X D cX9_adds "TeaHouseModel" 3 := hX
  have hT : RT X l D (some .int) (P2 (Pi L K)) 2 0 0 := hT
  have hR := hT.room
  change J2 X D 3 0 0 I L 0 [.ref 190, .int a1, .retAddr 0] []
  rw [f_X9_adds] at h
  refine q_iload_n hX dX9_adds_0 rfl ?_
  refine q_iconst hX dX9_adds_1 (v := (nI 2)) (by decide) ?_
  refine q_bipush hX dX9_adds_2 (v := (nI 16)) (by decide) ?_
  refine q_S_zp hX hR (w_X9_in  h) lk_X9_44 dX9_adds_4 rfl rfl (Nat.le_of_ble_eq_true rfl) (by omega) (by omega) (by omega) ?_
  intro x1 hrx1 h
  refine q_if_ne hX dX9_adds_7 (tgt := 12) (by decide) (fun q2 => ?_) (fun q2 => ?_)
  · replace h := ite_f q2 h
    refine q_aload_n hX dX9_adds_12 rfl ?_
    refine q_getR hX gf_X9_9 rfl dX9_adds_13 (at_of (n := 0) rfl) (b := 191) rfl ?_
    refine q_iconst hX dX9_adds_16 (v := (nI 1)) (by decide) ?_
    refine q_iald hX dX9_adds_17 (at_of (a := 191) (t := 22) (n := 1236) rfl) (j := 1) rfl (by decide) (by decide) ?_
    refine q_iconst hX dX9_adds_18 (v := (nI 4)) (by decide) ?_
    refine q_icmp_ne hX dX9_adds_19 (tgt := 24) (by decide) (fun q3 => ?_) (fun q3 => ?_)
    · replace h := ite_f q3 h
      refine q_aload_n hX dX9_adds_24 rfl ?_
      refine q_aload_n hX dX9_adds_25 rfl ?_
      refine q_getR hX gf_X9_9 rfl dX9_adds_26 (at_of (n := 0) rfl) (b := 191) rfl ?_
      refine q_iconst hX dX9_adds_29 (v := (nI 1)) (by decide) ?_
      refine q_iald hX dX9_adds_30 (at_of (a := 191) (t := 22) (n := 1236) rfl) (j := 1) rfl (by decide) (by decide) ?_
      replace h := wr_e h
      refine q_putI hX pf_X9_40 rfl dX9_adds_31 (at_of (n := 0) rfl) rfl rfl ?_
      generalize up2 _ _ _ _ = I4 at h ⊢
      refine q_aload_n hX dX9_adds_34 rfl ?_
      refine q_getR hX gf_X9_9 rfl dX9_adds_35 (at_of (n := 0) rfl) (b := 191) rfl ?_
      refine q_iconst hX dX9_adds_38 (v := (nI 1)) (by decide) ?_
      refine q_dup2 hX dX9_adds_39 rfl rfl ?_
      refine q_iald hX dX9_adds_40 (at_of (a := 191) (t := 22) (n := 1236) rfl) (j := 1) rfl (by decide) (by decide) ?_
      refine q_iconst hX dX9_adds_41 (v := (nI 1)) (by decide) ?_
      refine q_iadd hX dX9_adds_42 ?_
      replace h := wr_e h
      refine q_iast hX dX9_adds_43 (at_of (a := 191) (t := 22) (n := 1236) rfl) (j := 1) rfl (by decide) (by decide) rfl ?_
      generalize up2 _ _ _ _ = I5 at h ⊢
      refine q_iconst hX dX9_adds_44 (v := (nI 0)) (by decide) ?_
      refine q_istore_n hX dX9_adds_45 (by decide) (ls' := [_, _, _]) rfl ?_
      exact q_dr (w_X9_adds_b46 hX hT   _  _ _  h) ⟨Or.inl rfl, Or.inl rfl, Or.inl rfl, trivial⟩
    · replace h := ite_t q3 h
      refine q_iconst hX dX9_adds_22 (v := (nI 3)) (by decide) ?_
      exact q_iret hX hT dX9_adds_23 h
  · replace h := ite_t q2 h
    refine q_iconst hX dX9_adds_10 (v := (nI 2)) (by decide) ?_
    exact q_iret hX hT dX9_adds_11 h
set_option maxRecDepth 100000 in
set_option maxHeartbeats 4000000 in
theorem w_X9_addKettle {l : Launch} {D : DT} {L : LT} {a1 : Int32} {I : IT} {K : Int32 → IT → Prop}  (h : f_X9_addKettle a1 I K) : Con2 l D m_X9_addKettle 3 [.ref 190, .int a1] 0 0 I L (Pi L K) := by
  refine Con2.of (by decide +kernel) (by simp [Value.category]) (Nat.le_of_ble_eq_true rfl) (fun X hX hT => ?_)
  have hX : OK X D cX9_addKettle "TeaHouseModel" 2 := hX
  have hT : RT X l D (some .int) (P2 (Pi L K)) 3 0 0 := hT
  have hR := hT.room
  change J2 X D 2 0 0 I L 0 [.ref 190, .int a1] []
  rw [f_X9_addKettle] at h
  refine q_aload_n hX dX9_addKettle_0 rfl ?_
  refine q_V_v hX hR (w_X9_begins  h) lk_X9_67 (rc2_of (ci := 10) rfl rfl) dX9_addKettle_1 rfl rfl (Nat.le_of_ble_eq_true rfl) (by omega) (by omega) (by omega) ?_
  intro I1 h
  refine q_aload_n hX dX9_addKettle_4 rfl ?_
  refine q_aload_n hX dX9_addKettle_5 rfl ?_
  refine q_iload_n hX dX9_addKettle_6 rfl ?_
  refine q_V_i hX hR (w_X9_adds  h) lk_X9_70 (rc2_of (ci := 10) rfl rfl) dX9_addKettle_7 rfl rfl (Nat.le_of_ble_eq_true rfl) (by omega) (by omega) (by omega) ?_
  intro x2 I3 h
  refine q_iconst hX dX9_addKettle_10 (v := (nI 0)) (by decide) ?_
  refine q_iconst hX dX9_addKettle_11 (v := (nI 1)) (by decide) ?_
  refine q_iconst hX dX9_addKettle_12 (v := (nI 2)) (by decide) ?_
  refine q_iconst hX dX9_addKettle_13 (v := (nI 0)) (by decide) ?_
  refine q_V_i hX hR (w_X9_ends  h) lk_X9_73 (rc2_of (ci := 10) rfl rfl) dX9_addKettle_14 rfl rfl (Nat.le_of_ble_eq_true rfl) (by omega) (by omega) (by omega) ?_
  intro x4 I5 h
  exact q_iret hX hT dX9_addKettle_17 h
set_option maxRecDepth 100000 in
set_option maxHeartbeats 4000000 in
theorem w_X9_fills {l : Launch} {D : DT} {L : LT} {a1 : Int32} {a2 : Int32} {I : IT} {K : Int32 → IT → Prop}  (h : f_X9_fills a1 a2 I K) : Con2 l D m_X9_fills 3 [.ref 190, .int a1, .int a2] 0 0 I L (Pi L K) := by
  refine Con2.of (by decide +kernel) (by simp [Value.category]) (Nat.le_of_ble_eq_true rfl) (fun X hX hT => ?_)
  have hX : OK X D cX9_fills "TeaHouseModel" 5 := hX
  have hT : RT X l D (some .int) (P2 (Pi L K)) 3 0 0 := hT
  have hR := hT.room
  change J2 X D 5 0 0 I L 0 [.ref 190, .int a1, .int a2, .retAddr 0, .retAddr 0] []
  rw [f_X9_fills] at h
  refine q_aload_n hX dX9_fills_0 rfl ?_
  refine q_iload_n hX dX9_fills_1 rfl ?_
  refine q_V_zp hX hR (w_X9_isKettle  h) lk_X9_77 (rc2_of (ci := 10) rfl rfl) dX9_fills_2 rfl rfl (Nat.le_of_ble_eq_true rfl) (by omega) (by omega) (by omega) ?_
  intro x1 hrx1 h
  refine q_if_ne hX dX9_fills_5 (tgt := 10) (by decide) (fun q2 => ?_) (fun q2 => ?_)
  · replace h := ite_f q2 h
    refine q_iload_n hX dX9_fills_10 rfl ?_
    refine q_iconst hX dX9_fills_11 (v := (nI 1)) (by decide) ?_
    refine q_bipush hX dX9_fills_12 (v := (nI 16)) (by decide) ?_
    refine q_S_zp hX hR (w_X9_in  h) lk_X9_44 dX9_fills_14 rfl rfl (Nat.le_of_ble_eq_true rfl) (by omega) (by omega) (by omega) ?_
    intro x3 hrx3 h
    refine q_if_ne hX dX9_fills_17 (tgt := 22) (by decide) (fun q4 => ?_) (fun q4 => ?_)
    · replace h := ite_f q4 h
      refine q_aload_n hX dX9_fills_22 rfl ?_
      refine q_iload_n hX dX9_fills_23 rfl ?_
      refine q_iconst hX dX9_fills_24 (v := (nI 1)) (by decide) ?_
      refine q_V_ip hX hR (w_X9_k  h) lk_X9_60 (rc2_of (ci := 10) rfl rfl) dX9_fills_25 rfl rfl (Nat.le_of_ble_eq_true rfl) (by omega) (by omega) (by omega) ?_
      intro x5 h
      refine q_istore_n hX dX9_fills_28 (by decide) (ls' := [_, _, _, _, _]) rfl ?_
      refine q_iconst hX dX9_fills_29 (v := (nI 2)) (by decide) ?_
      refine q_iload_n hX dX9_fills_30 rfl ?_
      refine q_imul hX dX9_fills_31 ?_
      replace h := bnd_e h
      refine q_istore hX dX9_fills_32 (by decide) (ls' := [_, _, _, _, _]) rfl ?_
      refine q_iload_n hX dX9_fills_34 rfl ?_
      refine q_iload hX dX9_fills_35 rfl ?_
      refine q_iadd hX dX9_fills_37 ?_
      refine q_aload_n hX dX9_fills_38 rfl ?_
      refine q_iload_n hX dX9_fills_39 rfl ?_
      refine q_iconst hX dX9_fills_40 (v := (nI 0)) (by decide) ?_
      refine q_V_ip hX hR (w_X9_k  h) lk_X9_60 (rc2_of (ci := 10) rfl rfl) dX9_fills_41 rfl rfl (Nat.le_of_ble_eq_true rfl) (by omega) (by omega) (by omega) ?_
      intro x7 h
      refine q_icmp_le hX dX9_fills_44 (tgt := 49) (by decide) (fun q8 => ?_) (fun q8 => ?_)
      · replace h := ite_t q8 h
        refine q_aload_n hX dX9_fills_49 rfl ?_
        refine q_bipush hX dX9_fills_50 (v := (nI 40)) (by decide) ?_
        refine q_aload_n hX dX9_fills_52 rfl ?_
        refine q_iload_n hX dX9_fills_53 rfl ?_
        refine q_iconst hX dX9_fills_54 (v := (nI 2)) (by decide) ?_
        refine q_V_ip hX hR (w_X9_k  h) lk_X9_60 (rc2_of (ci := 10) rfl rfl) dX9_fills_55 rfl rfl (Nat.le_of_ble_eq_true rfl) (by omega) (by omega) (by omega) ?_
        intro x9 h
        refine q_bipush hX dX9_fills_58 (v := (nI 40)) (by decide) ?_
        refine q_isub hX dX9_fills_60 ?_
        refine q_iload_n hX dX9_fills_61 rfl ?_
        refine q_imul hX dX9_fills_62 ?_
        refine q_iload_n hX dX9_fills_63 rfl ?_
        refine q_iload hX dX9_fills_64 rfl ?_
        refine q_iadd hX dX9_fills_66 ?_
        obtain ⟨z10, h⟩ := h
        refine q_idiv hX dX9_fills_67 z10 ?_
        refine q_iadd hX dX9_fills_68 ?_
        replace h := wr_e h
        refine q_putI hX pf_X9_40 rfl dX9_fills_69 (at_of (n := 0) rfl) rfl rfl ?_
        generalize up2 _ _ _ _ = I11 at h ⊢
        refine q_aload_n hX dX9_fills_72 rfl ?_
        refine q_iload_n hX dX9_fills_73 rfl ?_
        refine q_iconst hX dX9_fills_74 (v := (nI 2)) (by decide) ?_
        refine q_aload_n hX dX9_fills_75 rfl ?_
        refine q_getI hX gf_X9_40 rfl dX9_fills_76 (at_of (n := 0) rfl) ?_
        refine q_V_v hX hR (w_X9_set  h) lk_X9_63 (rc2_of (ci := 10) rfl rfl) dX9_fills_79 rfl rfl (Nat.le_of_ble_eq_true rfl) (by omega) (by omega) (by omega) ?_
        intro I12 h
        refine q_aload_n hX dX9_fills_82 rfl ?_
        refine q_iload_n hX dX9_fills_83 rfl ?_
        refine q_iconst hX dX9_fills_84 (v := (nI 1)) (by decide) ?_
        refine q_iload_n hX dX9_fills_85 rfl ?_
        refine q_iload hX dX9_fills_86 rfl ?_
        refine q_iadd hX dX9_fills_88 ?_
        refine q_V_v hX hR (w_X9_set  h) lk_X9_63 (rc2_of (ci := 10) rfl rfl) dX9_fills_89 rfl rfl (Nat.le_of_ble_eq_true rfl) (by omega) (by omega) (by omega) ?_
        intro I13 h
        refine q_aload_n hX dX9_fills_92 rfl ?_
        refine q_getR hX gf_X9_9 rfl dX9_fills_93 (at_of (n := 0) rfl) (b := 191) rfl ?_
        refine q_bipush hX dX9_fills_96 (v := (nI 8)) (by decide) ?_
        refine q_dup2 hX dX9_fills_98 rfl rfl ?_
        refine q_iald hX dX9_fills_99 (at_of (a := 191) (t := 22) (n := 1236) rfl) (j := 8) rfl (by decide) (by decide) ?_
        refine q_iload hX dX9_fills_100 rfl ?_
        refine q_iadd hX dX9_fills_102 ?_
        replace h := wr_e h
        refine q_iast hX dX9_fills_103 (at_of (a := 191) (t := 22) (n := 1236) rfl) (j := 8) rfl (by decide) (by decide) rfl ?_
        generalize up2 _ _ _ _ = I14 at h ⊢
        refine q_iconst hX dX9_fills_104 (v := (nI 0)) (by decide) ?_
        exact q_iret hX hT dX9_fills_105 h
      · replace h := ite_f q8 h
        refine q_iconst hX dX9_fills_47 (v := (nI 3)) (by decide) ?_
        exact q_iret hX hT dX9_fills_48 h
    · replace h := ite_t q4 h
      refine q_iconst hX dX9_fills_20 (v := (nI 2)) (by decide) ?_
      exact q_iret hX hT dX9_fills_21 h
  · replace h := ite_t q2 h
    refine q_iconst hX dX9_fills_8 (v := (nI 1)) (by decide) ?_
    exact q_iret hX hT dX9_fills_9 h
set_option maxRecDepth 100000 in
set_option maxHeartbeats 4000000 in
theorem w_X9_fill {l : Launch} {D : DT} {L : LT} {a1 : Int32} {a2 : Int32} {I : IT} {K : UInt32 → IT → Prop}  (h : f_X9_fill a1 a2 I K) : Con2 l D m_X9_fill 4 [.ref 190, .int a1, .int a2] 0 0 I L (Pf L K) := by
  refine Con2.of (by decide +kernel) (by simp [Value.category]) (Nat.le_of_ble_eq_true rfl) (fun X hX hT => ?_)
  have hX : OK X D cX9_fill "TeaHouseModel" 3 := hX
  have hT : RT X l D (some .float) (P2 (Pf L K)) 4 0 0 := hT
  have hR := hT.room
  change J2 X D 3 0 0 I L 0 [.ref 190, .int a1, .int a2] []
  rw [f_X9_fill] at h
  refine q_aload_n hX dX9_fill_0 rfl ?_
  refine q_V_v hX hR (w_X9_begins  h) lk_X9_67 (rc2_of (ci := 10) rfl rfl) dX9_fill_1 rfl rfl (Nat.le_of_ble_eq_true rfl) (by omega) (by omega) (by omega) ?_
  intro I1 h
  refine q_aload_n hX dX9_fill_4 rfl ?_
  refine q_aload_n hX dX9_fill_5 rfl ?_
  refine q_iload_n hX dX9_fill_6 rfl ?_
  refine q_iload_n hX dX9_fill_7 rfl ?_
  refine q_V_i hX hR (w_X9_fills  h) lk_X9_81 (rc2_of (ci := 10) rfl rfl) dX9_fill_8 rfl rfl (Nat.le_of_ble_eq_true rfl) (by omega) (by omega) (by omega) ?_
  intro x2 I3 h
  refine q_iconst hX dX9_fill_11 (v := (nI 1)) (by decide) ?_
  refine q_iconst hX dX9_fill_12 (v := (nI 2)) (by decide) ?_
  refine q_iconst hX dX9_fill_13 (v := (nI 3)) (by decide) ?_
  refine q_iconst hX dX9_fill_14 (v := (nI 0)) (by decide) ?_
  refine q_V_i hX hR (w_X9_ends  h) lk_X9_73 (rc2_of (ci := 10) rfl rfl) dX9_fill_15 rfl rfl (Nat.le_of_ble_eq_true rfl) (by omega) (by omega) (by omega) ?_
  intro x4 I5 h
  refine q_S_fp hX hR (w_X9_halves  h) lk_X9_84 dX9_fill_18 rfl rfl (Nat.le_of_ble_eq_true rfl) (by omega) (by omega) (by omega) ?_
  intro x6 h
  exact q_fret hX hT dX9_fill_21 h
set_option maxRecDepth 100000 in
set_option maxHeartbeats 4000000 in
theorem w_X9_turns {l : Launch} {D : DT} {L : LT} {a1 : Int32} {a2 : Int32} {I : IT} {K : Int32 → IT → Prop}  (h : f_X9_turns a1 a2 I K) : Con2 l D m_X9_turns 3 [.ref 190, .int a1, .int a2] 0 0 I L (Pi L K) := by
  refine Con2.of (by decide +kernel) (by simp [Value.category]) (Nat.le_of_ble_eq_true rfl) (fun X hX hT => ?_)
  have hX : OK X D cX9_turns "TeaHouseModel" 3 := hX
  have hT : RT X l D (some .int) (P2 (Pi L K)) 3 0 0 := hT
  have hR := hT.room
  change J2 X D 3 0 0 I L 0 [.ref 190, .int a1, .int a2] []
  rw [f_X9_turns] at h
  refine q_aload_n hX dX9_turns_0 rfl ?_
  refine q_iload_n hX dX9_turns_1 rfl ?_
  refine q_V_zp hX hR (w_X9_isKettle  h) lk_X9_77 (rc2_of (ci := 10) rfl rfl) dX9_turns_2 rfl rfl (Nat.le_of_ble_eq_true rfl) (by omega) (by omega) (by omega) ?_
  intro x1 hrx1 h
  refine q_if_ne hX dX9_turns_5 (tgt := 10) (by decide) (fun q2 => ?_) (fun q2 => ?_)
  · replace h := ite_f q2 h
    refine q_iload_n hX dX9_turns_10 rfl ?_
    refine q_iconst hX dX9_turns_11 (v := (nI 0)) (by decide) ?_
    refine q_iconst hX dX9_turns_12 (v := (nI 5)) (by decide) ?_
    refine q_S_zp hX hR (w_X9_in  h) lk_X9_44 dX9_turns_13 rfl rfl (Nat.le_of_ble_eq_true rfl) (by omega) (by omega) (by omega) ?_
    intro x3 hrx3 h
    refine q_if_ne hX dX9_turns_16 (tgt := 21) (by decide) (fun q4 => ?_) (fun q4 => ?_)
    · replace h := ite_f q4 h
      refine q_aload_n hX dX9_turns_21 rfl ?_
      refine q_aload_n hX dX9_turns_22 rfl ?_
      refine q_iload_n hX dX9_turns_23 rfl ?_
      refine q_iconst hX dX9_turns_24 (v := (nI 3)) (by decide) ?_
      refine q_V_ip hX hR (w_X9_k  h) lk_X9_60 (rc2_of (ci := 10) rfl rfl) dX9_turns_25 rfl rfl (Nat.le_of_ble_eq_true rfl) (by omega) (by omega) (by omega) ?_
      intro x5 h
      replace h := wr_e h
      refine q_putI hX pf_X9_40 rfl dX9_turns_28 (at_of (n := 0) rfl) rfl rfl ?_
      generalize up2 _ _ _ _ = I6 at h ⊢
      refine q_aload_n hX dX9_turns_31 rfl ?_
      refine q_iload_n hX dX9_turns_32 rfl ?_
      refine q_iconst hX dX9_turns_33 (v := (nI 3)) (by decide) ?_
      refine q_iload_n hX dX9_turns_34 rfl ?_
      refine q_V_v hX hR (w_X9_set  h) lk_X9_63 (rc2_of (ci := 10) rfl rfl) dX9_turns_35 rfl rfl (Nat.le_of_ble_eq_true rfl) (by omega) (by omega) (by omega) ?_
      intro I7 h
      refine q_iconst hX dX9_turns_38 (v := (nI 0)) (by decide) ?_
      exact q_iret hX hT dX9_turns_39 h
    · replace h := ite_t q4 h
      refine q_iconst hX dX9_turns_19 (v := (nI 2)) (by decide) ?_
      exact q_iret hX hT dX9_turns_20 h
  · replace h := ite_t q2 h
    refine q_iconst hX dX9_turns_8 (v := (nI 1)) (by decide) ?_
    exact q_iret hX hT dX9_turns_9 h
set_option maxRecDepth 100000 in
set_option maxHeartbeats 4000000 in
theorem w_X9_setBurner {l : Launch} {D : DT} {L : LT} {a1 : Int32} {a2 : Int32} {I : IT} {K : Int32 → IT → Prop}  (h : f_X9_setBurner a1 a2 I K) : Con2 l D m_X9_setBurner 4 [.ref 190, .int a1, .int a2] 0 0 I L (Pi L K) := by
  refine Con2.of (by decide +kernel) (by simp [Value.category]) (Nat.le_of_ble_eq_true rfl) (fun X hX hT => ?_)
  have hX : OK X D cX9_setBurner "TeaHouseModel" 3 := hX
  have hT : RT X l D (some .int) (P2 (Pi L K)) 4 0 0 := hT
  have hR := hT.room
  change J2 X D 3 0 0 I L 0 [.ref 190, .int a1, .int a2] []
  rw [f_X9_setBurner] at h
  refine q_aload_n hX dX9_setBurner_0 rfl ?_
  refine q_V_v hX hR (w_X9_begins  h) lk_X9_67 (rc2_of (ci := 10) rfl rfl) dX9_setBurner_1 rfl rfl (Nat.le_of_ble_eq_true rfl) (by omega) (by omega) (by omega) ?_
  intro I1 h
  refine q_aload_n hX dX9_setBurner_4 rfl ?_
  refine q_aload_n hX dX9_setBurner_5 rfl ?_
  refine q_iload_n hX dX9_setBurner_6 rfl ?_
  refine q_iload_n hX dX9_setBurner_7 rfl ?_
  refine q_V_i hX hR (w_X9_turns  h) lk_X9_88 (rc2_of (ci := 10) rfl rfl) dX9_setBurner_8 rfl rfl (Nat.le_of_ble_eq_true rfl) (by omega) (by omega) (by omega) ?_
  intro x2 I3 h
  refine q_iconst hX dX9_setBurner_11 (v := (nI 1)) (by decide) ?_
  refine q_iconst hX dX9_setBurner_12 (v := (nI 2)) (by decide) ?_
  refine q_iconst hX dX9_setBurner_13 (v := (nI 0)) (by decide) ?_
  refine q_iconst hX dX9_setBurner_14 (v := (nI 0)) (by decide) ?_
  refine q_V_i hX hR (w_X9_ends  h) lk_X9_73 (rc2_of (ci := 10) rfl rfl) dX9_setBurner_15 rfl rfl (Nat.le_of_ble_eq_true rfl) (by omega) (by omega) (by omega) ?_
  intro x4 I5 h
  exact q_iret hX hT dX9_setBurner_18 h
set_option maxRecDepth 100000 in
set_option maxHeartbeats 4000000 in
theorem w_X9_accepts {l : Launch} {D : DT} {L : LT} {a1 : Int32} {a2 : Int32} {a3 : Int32} {a4 : Int32} {I : IT} {K : Int32 → IT → Prop}  (h : f_X9_accepts a1 a2 a3 a4 I K) : Con2 l D m_X9_accepts 2 [.ref 190, .int a1, .int a2, .int a3, .int a4] 0 0 I L (Pi L K) := by
  refine Con2.of (by decide +kernel) (by simp [Value.category]) (Nat.le_of_ble_eq_true rfl) (fun X hX hT => ?_)
  have hX : OK X D cX9_accepts "TeaHouseModel" 6 := hX
  have hT : RT X l D (some .int) (P2 (Pi L K)) 2 0 0 := hT
  have hR := hT.room
  change J2 X D 6 0 0 I L 0 [.ref 190, .int a1, .int a2, .int a3, .int a4, .retAddr 0] []
  rw [f_X9_accepts] at h
  refine q_iload_n hX dX9_accepts_0 rfl ?_
  refine q_iconst hX dX9_accepts_1 (v := (nI 0)) (by decide) ?_
  refine q_bipush hX dX9_accepts_2 (v := (nI 9)) (by decide) ?_
  refine q_S_zp hX hR (w_X9_in  h) lk_X9_44 dX9_accepts_4 rfl rfl (Nat.le_of_ble_eq_true rfl) (by omega) (by omega) (by omega) ?_
  intro x1 hrx1 h
  refine q_if_eq hX dX9_accepts_7 (tgt := 42) (by decide) (fun q2 => ?_) (fun q2 => ?_)
  · replace h := ite_t q2 h
    refine q_iconst hX dX9_accepts_42 (v := (nI 2)) (by decide) ?_
    exact q_iret hX hT dX9_accepts_43 h
  · replace h := ite_f q2 h
    refine q_iload_n hX dX9_accepts_10 rfl ?_
    refine q_iconst hX dX9_accepts_11 (v := (nI 1)) (by decide) ?_
    refine q_bipush hX dX9_accepts_12 (v := (nI 6)) (by decide) ?_
    refine q_S_zp hX hR (w_X9_in  h) lk_X9_44 dX9_accepts_14 rfl rfl (Nat.le_of_ble_eq_true rfl) (by omega) (by omega) (by omega) ?_
    intro x3 hrx3 h
    refine q_if_eq hX dX9_accepts_17 (tgt := 42) (by decide) (fun q4 => ?_) (fun q4 => ?_)
    · replace h := ite_t q4 h
      refine q_iconst hX dX9_accepts_42 (v := (nI 2)) (by decide) ?_
      exact q_iret hX hT dX9_accepts_43 h
    · replace h := ite_f q4 h
      refine q_iload_n hX dX9_accepts_20 rfl ?_
      refine q_bipush hX dX9_accepts_21 (v := (nI 60)) (by decide) ?_
      refine q_bipush hX dX9_accepts_23 (v := (nI 100)) (by decide) ?_
      refine q_S_zp hX hR (w_X9_in  h) lk_X9_44 dX9_accepts_25 rfl rfl (Nat.le_of_ble_eq_true rfl) (by omega) (by omega) (by omega) ?_
      intro x5 hrx5 h
      refine q_if_eq hX dX9_accepts_28 (tgt := 42) (by decide) (fun q6 => ?_) (fun q6 => ?_)
      · replace h := ite_t q6 h
        refine q_iconst hX dX9_accepts_42 (v := (nI 2)) (by decide) ?_
        exact q_iret hX hT dX9_accepts_43 h
      · replace h := ite_f q6 h
        refine q_iload hX dX9_accepts_31 rfl ?_
        refine q_iconst hX dX9_accepts_33 (v := (nI 1)) (by decide) ?_
        refine q_bipush hX dX9_accepts_34 (v := (nI 9)) (by decide) ?_
        refine q_S_zp hX hR (w_X9_in  h) lk_X9_44 dX9_accepts_36 rfl rfl (Nat.le_of_ble_eq_true rfl) (by omega) (by omega) (by omega) ?_
        intro x7 hrx7 h
        refine q_if_ne hX dX9_accepts_39 (tgt := 44) (by decide) (fun q8 => ?_) (fun q8 => ?_)
        · replace h := ite_f q8 h
          refine q_aload_n hX dX9_accepts_44 rfl ?_
          refine q_getR hX gf_X9_9 rfl dX9_accepts_45 (at_of (n := 0) rfl) (b := 191) rfl ?_
          refine q_iconst hX dX9_accepts_48 (v := (nI 2)) (by decide) ?_
          refine q_iald hX dX9_accepts_49 (at_of (a := 191) (t := 22) (n := 1236) rfl) (j := 2) rfl (by decide) (by decide) ?_
          refine q_bipush hX dX9_accepts_50 (v := (nI 10)) (by decide) ?_
          refine q_icmp_ne hX dX9_accepts_52 (tgt := 57) (by decide) (fun q9 => ?_) (fun q9 => ?_)
          · replace h := ite_f q9 h
            refine q_bipush hX dX9_accepts_57 (v := (nI 53)) (by decide) ?_
            refine q_iconst hX dX9_accepts_59 (v := (nI 5)) (by decide) ?_
            refine q_aload_n hX dX9_accepts_60 rfl ?_
            refine q_getR hX gf_X9_9 rfl dX9_accepts_61 (at_of (n := 0) rfl) (b := 191) rfl ?_
            refine q_iconst hX dX9_accepts_64 (v := (nI 2)) (by decide) ?_
            refine q_iald hX dX9_accepts_65 (at_of (a := 191) (t := 22) (n := 1236) rfl) (j := 2) rfl (by decide) (by decide) ?_
            refine q_imul hX dX9_accepts_66 ?_
            refine q_iadd hX dX9_accepts_67 ?_
            replace h := bnd_e h
            refine q_istore hX dX9_accepts_68 (by decide) (ls' := [_, _, _, _, _, _]) rfl ?_
            refine q_aload_n hX dX9_accepts_70 rfl ?_
            refine q_aload_n hX dX9_accepts_71 rfl ?_
            refine q_getR hX gf_X9_9 rfl dX9_accepts_72 (at_of (n := 0) rfl) (b := 191) rfl ?_
            refine q_iconst hX dX9_accepts_75 (v := (nI 3)) (by decide) ?_
            refine q_iald hX dX9_accepts_76 (at_of (a := 191) (t := 22) (n := 1236) rfl) (j := 3) rfl (by decide) (by decide) ?_
            replace h := wr_e h
            refine q_putI hX pf_X9_40 rfl dX9_accepts_77 (at_of (n := 0) rfl) rfl rfl ?_
            generalize up2 _ _ _ _ = I11 at h ⊢
            refine q_aload_n hX dX9_accepts_80 rfl ?_
            refine q_getR hX gf_X9_9 rfl dX9_accepts_81 (at_of (n := 0) rfl) (b := 191) rfl ?_
            refine q_iload hX dX9_accepts_84 rfl ?_
            refine q_iconst hX dX9_accepts_86 (v := (nI 0)) (by decide) ?_
            refine q_iadd hX dX9_accepts_87 ?_
            refine q_aload_n hX dX9_accepts_88 rfl ?_
            refine q_getI hX gf_X9_40 rfl dX9_accepts_89 (at_of (n := 0) rfl) ?_
            obtain ⟨z12, h⟩ := h
            replace h := wr_e h
            refine q_iast hX dX9_accepts_92 (at_of (a := 191) (t := 22) (n := 1236) rfl) (inr_e z12) (inr_lt z12) (by decide) rfl ?_
            generalize up2 _ _ _ _ = I13 at h ⊢
            refine q_aload_n hX dX9_accepts_93 rfl ?_
            refine q_getR hX gf_X9_9 rfl dX9_accepts_94 (at_of (n := 0) rfl) (b := 191) rfl ?_
            refine q_iload hX dX9_accepts_97 rfl ?_
            refine q_iconst hX dX9_accepts_99 (v := (nI 1)) (by decide) ?_
            refine q_iadd hX dX9_accepts_100 ?_
            refine q_iload_n hX dX9_accepts_101 rfl ?_
            obtain ⟨z14, h⟩ := h
            replace h := wr_e h
            refine q_iast hX dX9_accepts_102 (at_of (a := 191) (t := 22) (n := 1236) rfl) (inr_e z14) (inr_lt z14) (by decide) rfl ?_
            generalize up2 _ _ _ _ = I15 at h ⊢
            refine q_aload_n hX dX9_accepts_103 rfl ?_
            refine q_getR hX gf_X9_9 rfl dX9_accepts_104 (at_of (n := 0) rfl) (b := 191) rfl ?_
            refine q_iload hX dX9_accepts_107 rfl ?_
            refine q_iconst hX dX9_accepts_109 (v := (nI 2)) (by decide) ?_
            refine q_iadd hX dX9_accepts_110 ?_
            refine q_iload_n hX dX9_accepts_111 rfl ?_
            obtain ⟨z16, h⟩ := h
            replace h := wr_e h
            refine q_iast hX dX9_accepts_112 (at_of (a := 191) (t := 22) (n := 1236) rfl) (inr_e z16) (inr_lt z16) (by decide) rfl ?_
            generalize up2 _ _ _ _ = I17 at h ⊢
            refine q_aload_n hX dX9_accepts_113 rfl ?_
            refine q_getR hX gf_X9_9 rfl dX9_accepts_114 (at_of (n := 0) rfl) (b := 191) rfl ?_
            refine q_iload hX dX9_accepts_117 rfl ?_
            refine q_iconst hX dX9_accepts_119 (v := (nI 3)) (by decide) ?_
            refine q_iadd hX dX9_accepts_120 ?_
            refine q_iload_n hX dX9_accepts_121 rfl ?_
            obtain ⟨z18, h⟩ := h
            replace h := wr_e h
            refine q_iast hX dX9_accepts_122 (at_of (a := 191) (t := 22) (n := 1236) rfl) (inr_e z18) (inr_lt z18) (by decide) rfl ?_
            generalize up2 _ _ _ _ = I19 at h ⊢
            refine q_aload_n hX dX9_accepts_123 rfl ?_
            refine q_getR hX gf_X9_9 rfl dX9_accepts_124 (at_of (n := 0) rfl) (b := 191) rfl ?_
            refine q_iload hX dX9_accepts_127 rfl ?_
            refine q_iconst hX dX9_accepts_129 (v := (nI 4)) (by decide) ?_
            refine q_iadd hX dX9_accepts_130 ?_
            refine q_iload hX dX9_accepts_131 rfl ?_
            obtain ⟨z20, h⟩ := h
            replace h := wr_e h
            refine q_iast hX dX9_accepts_133 (at_of (a := 191) (t := 22) (n := 1236) rfl) (inr_e z20) (inr_lt z20) (by decide) rfl ?_
            generalize up2 _ _ _ _ = I21 at h ⊢
            refine q_aload_n hX dX9_accepts_134 rfl ?_
            refine q_getR hX gf_X9_9 rfl dX9_accepts_135 (at_of (n := 0) rfl) (b := 191) rfl ?_
            refine q_iconst hX dX9_accepts_138 (v := (nI 2)) (by decide) ?_
            refine q_dup2 hX dX9_accepts_139 rfl rfl ?_
            refine q_iald hX dX9_accepts_140 (at_of (a := 191) (t := 22) (n := 1236) rfl) (j := 2) rfl (by decide) (by decide) ?_
            refine q_iconst hX dX9_accepts_141 (v := (nI 1)) (by decide) ?_
            refine q_iadd hX dX9_accepts_142 ?_
            replace h := wr_e h
            refine q_iast hX dX9_accepts_143 (at_of (a := 191) (t := 22) (n := 1236) rfl) (j := 2) rfl (by decide) (by decide) rfl ?_
            generalize up2 _ _ _ _ = I22 at h ⊢
            refine q_aload_n hX dX9_accepts_144 rfl ?_
            refine q_getR hX gf_X9_9 rfl dX9_accepts_145 (at_of (n := 0) rfl) (b := 191) rfl ?_
            refine q_iconst hX dX9_accepts_148 (v := (nI 3)) (by decide) ?_
            refine q_dup2 hX dX9_accepts_149 rfl rfl ?_
            refine q_iald hX dX9_accepts_150 (at_of (a := 191) (t := 22) (n := 1236) rfl) (j := 3) rfl (by decide) (by decide) ?_
            refine q_iconst hX dX9_accepts_151 (v := (nI 1)) (by decide) ?_
            refine q_iadd hX dX9_accepts_152 ?_
            replace h := wr_e h
            refine q_iast hX dX9_accepts_153 (at_of (a := 191) (t := 22) (n := 1236) rfl) (j := 3) rfl (by decide) (by decide) rfl ?_
            generalize up2 _ _ _ _ = I23 at h ⊢
            refine q_iconst hX dX9_accepts_154 (v := (nI 0)) (by decide) ?_
            exact q_iret hX hT dX9_accepts_155 h
          · replace h := ite_t q9 h
            refine q_iconst hX dX9_accepts_55 (v := (nI 3)) (by decide) ?_
            exact q_iret hX hT dX9_accepts_56 h
        · replace h := ite_t q8 h
          refine q_iconst hX dX9_accepts_42 (v := (nI 2)) (by decide) ?_
          exact q_iret hX hT dX9_accepts_43 h
set_option maxRecDepth 100000 in
set_option maxHeartbeats 4000000 in
theorem w_X9_order {l : Launch} {D : DT} {L : LT} {a1 : Int32} {a2 : Int32} {a3 : Int32} {a4 : Int32} {I : IT} {K : Int32 → IT → Prop}  (h : f_X9_order a1 a2 a3 a4 I K) : Con2 l D m_X9_order 3 [.ref 190, .int a1, .int a2, .int a3, .int a4] 0 0 I L (Pi L K) := by
  refine Con2.of (by decide +kernel) (by simp [Value.category]) (Nat.le_of_ble_eq_true rfl) (fun X hX hT => ?_)
  have hX : OK X D cX9_order "TeaHouseModel" 5 := hX
  have hT : RT X l D (some .int) (P2 (Pi L K)) 3 0 0 := hT
  have hR := hT.room
  change J2 X D 5 0 0 I L 0 [.ref 190, .int a1, .int a2, .int a3, .int a4] []
  rw [f_X9_order] at h
  refine q_aload_n hX dX9_order_0 rfl ?_
  refine q_V_v hX hR (w_X9_begins  h) lk_X9_67 (rc2_of (ci := 10) rfl rfl) dX9_order_1 rfl rfl (Nat.le_of_ble_eq_true rfl) (by omega) (by omega) (by omega) ?_
  intro I1 h
  refine q_aload_n hX dX9_order_4 rfl ?_
  refine q_aload_n hX dX9_order_5 rfl ?_
  refine q_iload_n hX dX9_order_6 rfl ?_
  refine q_iload_n hX dX9_order_7 rfl ?_
  refine q_iload_n hX dX9_order_8 rfl ?_
  refine q_iload hX dX9_order_9 rfl ?_
  refine q_V_i hX hR (w_X9_accepts  h) lk_X9_91 (rc2_of (ci := 10) rfl rfl) dX9_order_11 rfl rfl (Nat.le_of_ble_eq_true rfl) (by omega) (by omega) (by omega) ?_
  intro x2 I3 h
  refine q_iconst hX dX9_order_14 (v := (nI 0)) (by decide) ?_
  refine q_iconst hX dX9_order_15 (v := (nI 1)) (by decide) ?_
  refine q_iconst hX dX9_order_16 (v := (nI 2)) (by decide) ?_
  refine q_iconst hX dX9_order_17 (v := (nI 0)) (by decide) ?_
  refine q_V_i hX hR (w_X9_ends  h) lk_X9_73 (rc2_of (ci := 10) rfl rfl) dX9_order_18 rfl rfl (Nat.le_of_ble_eq_true rfl) (by omega) (by omega) (by omega) ?_
  intro x4 I5 h
  exact q_iret hX hT dX9_order_21 h
set_option maxRecDepth 100000 in
set_option maxHeartbeats 4000000 in
theorem w_X9_cancels {l : Launch} {D : DT} {L : LT} {a1 : Int32} {I : IT} {K : Int32 → IT → Prop}  (h : f_X9_cancels a1 I K) : Con2 l D m_X9_cancels 3 [.ref 190, .int a1] 0 0 I L (Pi L K) := by
  refine Con2.of (by decide +kernel) (by simp [Value.category]) (Nat.le_of_ble_eq_true rfl) (fun X hX hT => ?_)
  have hX : OK X D cX9_cancels "TeaHouseModel" 3 := hX
  have hT : RT X l D (some .int) (P2 (Pi L K)) 3 0 0 := hT
  have hR := hT.room
  change J2 X D 3 0 0 I L 0 [.ref 190, .int a1, .retAddr 0] []
  rw [f_X9_cancels] at h
  refine q_aload_n hX dX9_cancels_0 rfl ?_
  refine q_iload_n hX dX9_cancels_1 rfl ?_
  refine q_V_ip hX hR (w_X9_find  h) lk_X9_95 (rc2_of (ci := 10) rfl rfl) dX9_cancels_2 rfl rfl (Nat.le_of_ble_eq_true rfl) (by omega) (by omega) (by omega) ?_
  intro x1 h
  refine q_istore_n hX dX9_cancels_5 (by decide) (ls' := [_, _, _]) rfl ?_
  refine q_iload_n hX dX9_cancels_6 rfl ?_
  refine q_if_ge hX dX9_cancels_7 (tgt := 12) (by decide) (fun q2 => ?_) (fun q2 => ?_)
  · replace h := ite_t q2 h
    refine q_aload_n hX dX9_cancels_12 rfl ?_
    refine q_iload_n hX dX9_cancels_13 rfl ?_
    refine q_V_v hX hR (w_X9_goes  h) lk_X9_98 (rc2_of (ci := 10) rfl rfl) dX9_cancels_14 rfl rfl (Nat.le_of_ble_eq_true rfl) (by omega) (by omega) (by omega) ?_
    intro I3 h
    refine q_aload_n hX dX9_cancels_17 rfl ?_
    refine q_aload_n hX dX9_cancels_18 rfl ?_
    refine q_getR hX gf_X9_9 rfl dX9_cancels_19 (at_of (n := 0) rfl) (b := 191) rfl ?_
    refine q_iconst hX dX9_cancels_22 (v := (nI 2)) (by decide) ?_
    refine q_iald hX dX9_cancels_23 (at_of (a := 191) (t := 22) (n := 1236) rfl) (j := 2) rfl (by decide) (by decide) ?_
    replace h := wr_e h
    refine q_putI hX pf_X9_40 rfl dX9_cancels_24 (at_of (n := 0) rfl) rfl rfl ?_
    generalize up2 _ _ _ _ = I4 at h ⊢
    refine q_iconst hX dX9_cancels_27 (v := (nI 0)) (by decide) ?_
    exact q_iret hX hT dX9_cancels_28 h
  · replace h := ite_f q2 h
    refine q_iconst hX dX9_cancels_10 (v := (nI 4)) (by decide) ?_
    exact q_iret hX hT dX9_cancels_11 h
set_option maxRecDepth 100000 in
set_option maxHeartbeats 4000000 in
theorem w_X9_cancel {l : Launch} {D : DT} {L : LT} {a1 : Int32} {I : IT} {K : Int32 → IT → Prop}  (h : f_X9_cancel a1 I K) : Con2 l D m_X9_cancel 4 [.ref 190, .int a1] 0 0 I L (Pi L K) := by
  refine Con2.of (by decide +kernel) (by simp [Value.category]) (Nat.le_of_ble_eq_true rfl) (fun X hX hT => ?_)
  have hX : OK X D cX9_cancel "TeaHouseModel" 2 := hX
  have hT : RT X l D (some .int) (P2 (Pi L K)) 4 0 0 := hT
  have hR := hT.room
  change J2 X D 2 0 0 I L 0 [.ref 190, .int a1] []
  rw [f_X9_cancel] at h
  refine q_aload_n hX dX9_cancel_0 rfl ?_
  refine q_V_v hX hR (w_X9_begins  h) lk_X9_67 (rc2_of (ci := 10) rfl rfl) dX9_cancel_1 rfl rfl (Nat.le_of_ble_eq_true rfl) (by omega) (by omega) (by omega) ?_
  intro I1 h
  refine q_aload_n hX dX9_cancel_4 rfl ?_
  refine q_aload_n hX dX9_cancel_5 rfl ?_
  refine q_iload_n hX dX9_cancel_6 rfl ?_
  refine q_V_i hX hR (w_X9_cancels  h) lk_X9_102 (rc2_of (ci := 10) rfl rfl) dX9_cancel_7 rfl rfl (Nat.le_of_ble_eq_true rfl) (by omega) (by omega) (by omega) ?_
  intro x2 I3 h
  refine q_iconst hX dX9_cancel_10 (v := (nI 0)) (by decide) ?_
  refine q_iconst hX dX9_cancel_11 (v := (nI 0)) (by decide) ?_
  refine q_iconst hX dX9_cancel_12 (v := (nI 0)) (by decide) ?_
  refine q_iconst hX dX9_cancel_13 (v := (nI 1)) (by decide) ?_
  refine q_V_i hX hR (w_X9_ends  h) lk_X9_73 (rc2_of (ci := 10) rfl rfl) dX9_cancel_14 rfl rfl (Nat.le_of_ble_eq_true rfl) (by omega) (by omega) (by omega) ?_
  intro x4 I5 h
  exact q_iret hX hT dX9_cancel_17 h
set_option maxRecDepth 100000 in
set_option maxHeartbeats 4000000 in
theorem w_X9_isServable {l : Launch} {D : DT} {L : LT}  {I : IT} {K : Int32 → Prop}  (h : f_X9_isServable  I K) : Con2 l D m_X9_isServable 5 [.ref 190] 0 0 I L (Pz L (fun x I' => I' = I ∧ K x)) := by
  refine Con2.of (by decide +kernel) (by simp [Value.category]) (Nat.le_of_ble_eq_true rfl) (fun X hX hT => ?_)
  have hX : OK X D cX9_isServable "TeaHouseModel" 2 := hX
  have hT : RT X l D (some .boolean) (P2 (Pz L (fun x I' => I' = I ∧ K x))) 5 0 0 := hT
  have hR := hT.room
  change J2 X D 2 0 0 I L 0 [.ref 190, .retAddr 0] []
  rw [f_X9_isServable] at h
  refine q_aload_n hX dX9_isServable_0 rfl ?_
  refine q_iconst hX dX9_isServable_1 (v := (nI 0)) (by decide) ?_
  refine q_V_ip hX hR (w_X9_ranked  h) lk_X9_105 (rc2_of (ci := 10) rfl rfl) dX9_isServable_2 rfl rfl (Nat.le_of_ble_eq_true rfl) (by omega) (by omega) (by omega) ?_
  intro x1 h
  refine q_istore_n hX dX9_isServable_5 (by decide) (ls' := [_, _]) rfl ?_
  refine q_iload_n hX dX9_isServable_6 rfl ?_
  refine q_if_lt hX dX9_isServable_7 (tgt := 40) (by decide) (fun q2 => ?_) (fun q2 => ?_)
  · replace h := ite_t q2 h
    refine q_iconst hX dX9_isServable_40 (v := (nI 0)) (by decide) ?_
    exact q_zretp hX hT dX9_isServable_41 (Or.inl rfl) h
  · replace h := ite_f q2 h
    refine q_aload_n hX dX9_isServable_10 rfl ?_
    refine q_iload_n hX dX9_isServable_11 rfl ?_
    refine q_V_ip hX hR (w_X9_pourer  h) lk_X9_108 (rc2_of (ci := 10) rfl rfl) dX9_isServable_12 rfl rfl (Nat.le_of_ble_eq_true rfl) (by omega) (by omega) (by omega) ?_
    intro x3 h
    refine q_if_lt hX dX9_isServable_15 (tgt := 40) (by decide) (fun q4 => ?_) (fun q4 => ?_)
    · replace h := ite_t q4 h
      refine q_iconst hX dX9_isServable_40 (v := (nI 0)) (by decide) ?_
      exact q_zretp hX hT dX9_isServable_41 (Or.inl rfl) h
    · replace h := ite_f q4 h
      refine q_bipush hX dX9_isServable_18 (v := (nI 20)) (by decide) ?_
      refine q_aload_n hX dX9_isServable_20 rfl ?_
      refine q_getR hX gf_X9_9 rfl dX9_isServable_21 (at_of (n := 0) rfl) (b := 191) rfl ?_
      refine q_iconst hX dX9_isServable_24 (v := (nI 4)) (by decide) ?_
      refine q_iald hX dX9_isServable_25 (at_of (a := 191) (t := 22) (n := 1236) rfl) (j := 4) rfl (by decide) (by decide) ?_
      refine q_isub hX dX9_isServable_26 ?_
      refine q_aload_n hX dX9_isServable_27 rfl ?_
      refine q_iload_n hX dX9_isServable_28 rfl ?_
      refine q_iconst hX dX9_isServable_29 (v := (nI 2)) (by decide) ?_
      refine q_V_ip hX hR (w_X9_o  h) lk_X9_48 (rc2_of (ci := 10) rfl rfl) dX9_isServable_30 rfl rfl (Nat.le_of_ble_eq_true rfl) (by omega) (by omega) (by omega) ?_
      intro x5 h
      refine q_icmp_lt hX dX9_isServable_33 (tgt := 40) (by decide) (fun q6 => ?_) (fun q6 => ?_)
      · replace h := ite_t q6 h
        refine q_iconst hX dX9_isServable_40 (v := (nI 0)) (by decide) ?_
        exact q_zretp hX hT dX9_isServable_41 (Or.inl rfl) h
      · replace h := ite_f q6 h
        refine q_iconst hX dX9_isServable_36 (v := (nI 1)) (by decide) ?_
        refine q_goto hX dX9_isServable_37 (tgt := 41) (by decide) ?_
        exact q_zretp hX hT dX9_isServable_41 (Or.inr rfl) h
set_option maxRecDepth 100000 in
set_option maxHeartbeats 4000000 in
theorem w_X9_earns {l : Launch} {D : DT} {L : LT} {a1 : Int32} {a2 : Int32} {I : IT} {K : IT → Prop}  (h : f_X9_earns a1 a2 I K) : Con2 l D m_X9_earns 1 [.ref 190, .int a1, .int a2] 0 0 I L (Pv L K) := by
  refine Con2.of (by decide +kernel) (by simp [Value.category]) (Nat.le_of_ble_eq_true rfl) (fun X hX hT => ?_)
  have hX : OK X D cX9_earns "TeaHouseModel" 3 := hX
  have hT : RT X l D none (P2 (Pv L K)) 1 0 0 := hT
  have hR := hT.room
  change J2 X D 3 0 0 I L 0 [.ref 190, .int a1, .int a2] []
  rw [f_X9_earns] at h
  refine q_aload_n hX dX9_earns_0 rfl ?_
  refine q_getR hX gf_X9_9 rfl dX9_earns_1 (at_of (n := 0) rfl) (b := 191) rfl ?_
  refine q_bipush hX dX9_earns_4 (v := (nI 12)) (by decide) ?_
  refine q_dup2 hX dX9_earns_6 rfl rfl ?_
  refine q_iald hX dX9_earns_7 (at_of (a := 191) (t := 22) (n := 1236) rfl) (j := 12) rfl (by decide) (by decide) ?_
  refine q_iload_n hX dX9_earns_8 rfl ?_
  refine q_iadd hX dX9_earns_9 ?_
  replace h := wr_e h
  refine q_iast hX dX9_earns_10 (at_of (a := 191) (t := 22) (n := 1236) rfl) (j := 12) rfl (by decide) (by decide) rfl ?_
  generalize up2 _ _ _ _ = I1 at h ⊢
  refine q_aload_n hX dX9_earns_11 rfl ?_
  refine q_getR hX gf_X9_9 rfl dX9_earns_12 (at_of (n := 0) rfl) (b := 191) rfl ?_
  refine q_iload_n hX dX9_earns_15 rfl ?_
  refine q_dup2 hX dX9_earns_16 rfl rfl ?_
  obtain ⟨z2, h⟩ := h
  refine q_iald hX dX9_earns_17 (at_of (a := 191) (t := 22) (n := 1236) rfl) (inr_e z2) (inr_lt z2) (by decide) ?_
  refine q_iload_n hX dX9_earns_18 rfl ?_
  refine q_iadd hX dX9_earns_19 ?_
  replace h := wr_e h
  refine q_iast hX dX9_earns_20 (at_of (a := 191) (t := 22) (n := 1236) rfl) (inr_e z2) (inr_lt z2) (by decide) rfl ?_
  generalize up2 _ _ _ _ = I3 at h ⊢
  exact q_vret hX hT dX9_earns_21 h
set_option maxRecDepth 100000 in
set_option maxHeartbeats 4000000 in
theorem w_X9_serves {l : Launch} {D : DT} {L : LT}  {I : IT} {K : Int32 → IT → Prop}  (h : f_X9_serves  I K) : Con2 l D m_X9_serves 6 [.ref 190] 0 0 I L (Pi L K) := by
  refine Con2.of (by decide +kernel) (by simp [Value.category]) (Nat.le_of_ble_eq_true rfl) (fun X hX hT => ?_)
  have hX : OK X D cX9_serves "TeaHouseModel" 4 := hX
  have hT : RT X l D (some .int) (P2 (Pi L K)) 6 0 0 := hT
  have hR := hT.room
  change J2 X D 4 0 0 I L 0 [.ref 190, .retAddr 0, .retAddr 0, .retAddr 0] []
  rw [f_X9_serves] at h
  refine q_aload_n hX dX9_serves_0 rfl ?_
  refine q_V_zp hX hR (w_X9_isServable  h) lk_X9_111 (rc2_of (ci := 10) rfl rfl) dX9_serves_1 rfl rfl (Nat.le_of_ble_eq_true rfl) (by omega) (by omega) (by omega) ?_
  intro x1 hrx1 h
  refine q_if_ne hX dX9_serves_4 (tgt := 9) (by decide) (fun q2 => ?_) (fun q2 => ?_)
  · replace h := ite_f q2 h
    refine q_aload_n hX dX9_serves_9 rfl ?_
    refine q_iconst hX dX9_serves_10 (v := (nI 0)) (by decide) ?_
    refine q_V_ip hX hR (w_X9_ranked  h) lk_X9_105 (rc2_of (ci := 10) rfl rfl) dX9_serves_11 rfl rfl (Nat.le_of_ble_eq_true rfl) (by omega) (by omega) (by omega) ?_
    intro x3 h
    refine q_istore_n hX dX9_serves_14 (by decide) (ls' := [_, _, _, _]) rfl ?_
    refine q_aload_n hX dX9_serves_15 rfl ?_
    refine q_iload_n hX dX9_serves_16 rfl ?_
    refine q_V_ip hX hR (w_X9_pourer  h) lk_X9_108 (rc2_of (ci := 10) rfl rfl) dX9_serves_17 rfl rfl (Nat.le_of_ble_eq_true rfl) (by omega) (by omega) (by omega) ?_
    intro x4 h
    refine q_istore_n hX dX9_serves_20 (by decide) (ls' := [_, _, _, _]) rfl ?_
    refine q_aload_n hX dX9_serves_21 rfl ?_
    refine q_iload_n hX dX9_serves_22 rfl ?_
    refine q_iconst hX dX9_serves_23 (v := (nI 2)) (by decide) ?_
    refine q_V_ip hX hR (w_X9_o  h) lk_X9_48 (rc2_of (ci := 10) rfl rfl) dX9_serves_24 rfl rfl (Nat.le_of_ble_eq_true rfl) (by omega) (by omega) (by omega) ?_
    intro x5 h
    refine q_istore_n hX dX9_serves_27 (by decide) (ls' := [_, _, _, _]) rfl ?_
    refine q_aload_n hX dX9_serves_28 rfl ?_
    refine q_aload_n hX dX9_serves_29 rfl ?_
    refine q_iload_n hX dX9_serves_30 rfl ?_
    refine q_iconst hX dX9_serves_31 (v := (nI 0)) (by decide) ?_
    refine q_V_ip hX hR (w_X9_o  h) lk_X9_48 (rc2_of (ci := 10) rfl rfl) dX9_serves_32 rfl rfl (Nat.le_of_ble_eq_true rfl) (by omega) (by omega) (by omega) ?_
    intro x6 h
    replace h := wr_e h
    refine q_putI hX pf_X9_40 rfl dX9_serves_35 (at_of (n := 0) rfl) rfl rfl ?_
    generalize up2 _ _ _ _ = I7 at h ⊢
    refine q_aload_n hX dX9_serves_38 rfl ?_
    refine q_iload_n hX dX9_serves_39 rfl ?_
    refine q_iconst hX dX9_serves_40 (v := (nI 1)) (by decide) ?_
    refine q_aload_n hX dX9_serves_41 rfl ?_
    refine q_iload_n hX dX9_serves_42 rfl ?_
    refine q_iconst hX dX9_serves_43 (v := (nI 1)) (by decide) ?_
    refine q_V_ip hX hR (w_X9_k  h) lk_X9_60 (rc2_of (ci := 10) rfl rfl) dX9_serves_44 rfl rfl (Nat.le_of_ble_eq_true rfl) (by omega) (by omega) (by omega) ?_
    intro x8 h
    refine q_iconst hX dX9_serves_47 (v := (nI 2)) (by decide) ?_
    refine q_iload_n hX dX9_serves_48 rfl ?_
    refine q_imul hX dX9_serves_49 ?_
    refine q_isub hX dX9_serves_50 ?_
    refine q_V_v hX hR (w_X9_set  h) lk_X9_63 (rc2_of (ci := 10) rfl rfl) dX9_serves_51 rfl rfl (Nat.le_of_ble_eq_true rfl) (by omega) (by omega) (by omega) ?_
    intro I9 h
    refine q_aload_n hX dX9_serves_54 rfl ?_
    refine q_getR hX gf_X9_9 rfl dX9_serves_55 (at_of (n := 0) rfl) (b := 191) rfl ?_
    refine q_bipush hX dX9_serves_58 (v := (nI 7)) (by decide) ?_
    refine q_dup2 hX dX9_serves_60 rfl rfl ?_
    refine q_iald hX dX9_serves_61 (at_of (a := 191) (t := 22) (n := 1236) rfl) (j := 7) rfl (by decide) (by decide) ?_
    refine q_iconst hX dX9_serves_62 (v := (nI 2)) (by decide) ?_
    refine q_iload_n hX dX9_serves_63 rfl ?_
    refine q_imul hX dX9_serves_64 ?_
    refine q_iadd hX dX9_serves_65 ?_
    replace h := wr_e h
    refine q_iast hX dX9_serves_66 (at_of (a := 191) (t := 22) (n := 1236) rfl) (j := 7) rfl (by decide) (by decide) rfl ?_
    generalize up2 _ _ _ _ = I10 at h ⊢
    refine q_aload_n hX dX9_serves_67 rfl ?_
    refine q_getR hX gf_X9_9 rfl dX9_serves_68 (at_of (n := 0) rfl) (b := 191) rfl ?_
    refine q_iconst hX dX9_serves_71 (v := (nI 4)) (by decide) ?_
    refine q_dup2 hX dX9_serves_72 rfl rfl ?_
    refine q_iald hX dX9_serves_73 (at_of (a := 191) (t := 22) (n := 1236) rfl) (j := 4) rfl (by decide) (by decide) ?_
    refine q_iload_n hX dX9_serves_74 rfl ?_
    refine q_iadd hX dX9_serves_75 ?_
    replace h := wr_e h
    refine q_iast hX dX9_serves_76 (at_of (a := 191) (t := 22) (n := 1236) rfl) (j := 4) rfl (by decide) (by decide) rfl ?_
    generalize up2 _ _ _ _ = I11 at h ⊢
    refine q_aload_n hX dX9_serves_77 rfl ?_
    refine q_getR hX gf_X9_9 rfl dX9_serves_78 (at_of (n := 0) rfl) (b := 191) rfl ?_
    refine q_bipush hX dX9_serves_81 (v := (nI 14)) (by decide) ?_
    refine q_dup2 hX dX9_serves_83 rfl rfl ?_
    refine q_iald hX dX9_serves_84 (at_of (a := 191) (t := 22) (n := 1236) rfl) (j := 14) rfl (by decide) (by decide) ?_
    refine q_iconst hX dX9_serves_85 (v := (nI 1)) (by decide) ?_
    refine q_iadd hX dX9_serves_86 ?_
    replace h := wr_e h
    refine q_iast hX dX9_serves_87 (at_of (a := 191) (t := 22) (n := 1236) rfl) (j := 14) rfl (by decide) (by decide) rfl ?_
    generalize up2 _ _ _ _ = I12 at h ⊢
    refine q_aload_n hX dX9_serves_88 rfl ?_
    refine q_bipush hX dX9_serves_89 (v := (nI 17)) (by decide) ?_
    refine q_iload_n hX dX9_serves_91 rfl ?_
    refine q_aload_n hX dX9_serves_92 rfl ?_
    refine q_getR hX gf_X9_9 rfl dX9_serves_93 (at_of (n := 0) rfl) (b := 191) rfl ?_
    refine q_bipush hX dX9_serves_96 (v := (nI 9)) (by decide) ?_
    refine q_iald hX dX9_serves_98 (at_of (a := 191) (t := 22) (n := 1236) rfl) (j := 9) rfl (by decide) (by decide) ?_
    refine q_imul hX dX9_serves_99 ?_
    refine q_V_v hX hR (w_X9_earns  h) lk_X9_115 (rc2_of (ci := 10) rfl rfl) dX9_serves_100 rfl rfl (Nat.le_of_ble_eq_true rfl) (by omega) (by omega) (by omega) ?_
    intro I13 h
    refine q_aload_n hX dX9_serves_103 rfl ?_
    refine q_iload_n hX dX9_serves_104 rfl ?_
    refine q_V_v hX hR (w_X9_goes  h) lk_X9_98 (rc2_of (ci := 10) rfl rfl) dX9_serves_105 rfl rfl (Nat.le_of_ble_eq_true rfl) (by omega) (by omega) (by omega) ?_
    intro I14 h
    refine q_iconst hX dX9_serves_108 (v := (nI 0)) (by decide) ?_
    exact q_iret hX hT dX9_serves_109 h
  · replace h := ite_t q2 h
    refine q_iconst hX dX9_serves_7 (v := (nI 3)) (by decide) ?_
    exact q_iret hX hT dX9_serves_8 h
set_option maxRecDepth 100000 in
set_option maxHeartbeats 4000000 in
theorem w_X9_serveNext {l : Launch} {D : DT} {L : LT}  {I : IT} {K : Int32 → IT → Prop}  (h : f_X9_serveNext  I K) : Con2 l D m_X9_serveNext 7 [.ref 190] 0 0 I L (Pi L K) := by
  refine Con2.of (by decide +kernel) (by simp [Value.category]) (Nat.le_of_ble_eq_true rfl) (fun X hX hT => ?_)
  have hX : OK X D cX9_serveNext "TeaHouseModel" 1 := hX
  have hT : RT X l D (some .int) (P2 (Pi L K)) 7 0 0 := hT
  have hR := hT.room
  change J2 X D 1 0 0 I L 0 [.ref 190] []
  rw [f_X9_serveNext] at h
  refine q_aload_n hX dX9_serveNext_0 rfl ?_
  refine q_V_v hX hR (w_X9_begins  h) lk_X9_67 (rc2_of (ci := 10) rfl rfl) dX9_serveNext_1 rfl rfl (Nat.le_of_ble_eq_true rfl) (by omega) (by omega) (by omega) ?_
  intro I1 h
  refine q_aload_n hX dX9_serveNext_4 rfl ?_
  refine q_aload_n hX dX9_serveNext_5 rfl ?_
  refine q_V_i hX hR (w_X9_serves  h) lk_X9_118 (rc2_of (ci := 10) rfl rfl) dX9_serveNext_6 rfl rfl (Nat.le_of_ble_eq_true rfl) (by omega) (by omega) (by omega) ?_
  intro x2 I3 h
  refine q_iconst hX dX9_serveNext_9 (v := (nI 0)) (by decide) ?_
  refine q_iconst hX dX9_serveNext_10 (v := (nI 0)) (by decide) ?_
  refine q_iconst hX dX9_serveNext_11 (v := (nI 1)) (by decide) ?_
  refine q_iconst hX dX9_serveNext_12 (v := (nI 0)) (by decide) ?_
  refine q_V_i hX hR (w_X9_ends  h) lk_X9_73 (rc2_of (ci := 10) rfl rfl) dX9_serveNext_13 rfl rfl (Nat.le_of_ble_eq_true rfl) (by omega) (by omega) (by omega) ?_
  intro x4 I5 h
  exact q_iret hX hT dX9_serveNext_16 h
set_option maxRecDepth 100000 in
set_option maxHeartbeats 4000000 in
theorem w_X9_washes {l : Launch} {D : DT} {L : LT} {a1 : Int32} {I : IT} {K : Int32 → IT → Prop}  (h : f_X9_washes a1 I K) : Con2 l D m_X9_washes 2 [.ref 190, .int a1] 0 0 I L (Pi L K) := by
  refine Con2.of (by decide +kernel) (by simp [Value.category]) (Nat.le_of_ble_eq_true rfl) (fun X hX hT => ?_)
  have hX : OK X D cX9_washes "TeaHouseModel" 2 := hX
  have hT : RT X l D (some .int) (P2 (Pi L K)) 2 0 0 := hT
  have hR := hT.room
  change J2 X D 2 0 0 I L 0 [.ref 190, .int a1] []
  rw [f_X9_washes] at h
  refine q_iload_n hX dX9_washes_0 rfl ?_
  refine q_iconst hX dX9_washes_1 (v := (nI 1)) (by decide) ?_
  refine q_bipush hX dX9_washes_2 (v := (nI 20)) (by decide) ?_
  refine q_S_zp hX hR (w_X9_in  h) lk_X9_44 dX9_washes_4 rfl rfl (Nat.le_of_ble_eq_true rfl) (by omega) (by omega) (by omega) ?_
  intro x1 hrx1 h
  refine q_if_ne hX dX9_washes_7 (tgt := 12) (by decide) (fun q2 => ?_) (fun q2 => ?_)
  · replace h := ite_f q2 h
    refine q_iload_n hX dX9_washes_12 rfl ?_
    refine q_aload_n hX dX9_washes_13 rfl ?_
    refine q_getR hX gf_X9_9 rfl dX9_washes_14 (at_of (n := 0) rfl) (b := 191) rfl ?_
    refine q_iconst hX dX9_washes_17 (v := (nI 4)) (by decide) ?_
    refine q_iald hX dX9_washes_18 (at_of (a := 191) (t := 22) (n := 1236) rfl) (j := 4) rfl (by decide) (by decide) ?_
    refine q_icmp_le hX dX9_washes_19 (tgt := 24) (by decide) (fun q3 => ?_) (fun q3 => ?_)
    · replace h := ite_t q3 h
      refine q_aload_n hX dX9_washes_24 rfl ?_
      refine q_getR hX gf_X9_9 rfl dX9_washes_25 (at_of (n := 0) rfl) (b := 191) rfl ?_
      refine q_iconst hX dX9_washes_28 (v := (nI 4)) (by decide) ?_
      refine q_dup2 hX dX9_washes_29 rfl rfl ?_
      refine q_iald hX dX9_washes_30 (at_of (a := 191) (t := 22) (n := 1236) rfl) (j := 4) rfl (by decide) (by decide) ?_
      refine q_iload_n hX dX9_washes_31 rfl ?_
      refine q_isub hX dX9_washes_32 ?_
      replace h := wr_e h
      refine q_iast hX dX9_washes_33 (at_of (a := 191) (t := 22) (n := 1236) rfl) (j := 4) rfl (by decide) (by decide) rfl ?_
      generalize up2 _ _ _ _ = I4 at h ⊢
      refine q_aload_n hX dX9_washes_34 rfl ?_
      refine q_bipush hX dX9_washes_35 (v := (nI 20)) (by decide) ?_
      refine q_aload_n hX dX9_washes_37 rfl ?_
      refine q_getR hX gf_X9_9 rfl dX9_washes_38 (at_of (n := 0) rfl) (b := 191) rfl ?_
      refine q_iconst hX dX9_washes_41 (v := (nI 4)) (by decide) ?_
      refine q_iald hX dX9_washes_42 (at_of (a := 191) (t := 22) (n := 1236) rfl) (j := 4) rfl (by decide) (by decide) ?_
      refine q_isub hX dX9_washes_43 ?_
      replace h := wr_e h
      refine q_putI hX pf_X9_40 rfl dX9_washes_44 (at_of (n := 0) rfl) rfl rfl ?_
      generalize up2 _ _ _ _ = I5 at h ⊢
      refine q_iconst hX dX9_washes_47 (v := (nI 0)) (by decide) ?_
      exact q_iret hX hT dX9_washes_48 h
    · replace h := ite_f q3 h
      refine q_iconst hX dX9_washes_22 (v := (nI 3)) (by decide) ?_
      exact q_iret hX hT dX9_washes_23 h
  · replace h := ite_t q2 h
    refine q_iconst hX dX9_washes_10 (v := (nI 2)) (by decide) ?_
    exact q_iret hX hT dX9_washes_11 h
set_option maxRecDepth 100000 in
set_option maxHeartbeats 4000000 in
theorem w_X9_wash {l : Launch} {D : DT} {L : LT} {a1 : Int32} {I : IT} {K : Int32 → IT → Prop}  (h : f_X9_wash a1 I K) : Con2 l D m_X9_wash 3 [.ref 190, .int a1] 0 0 I L (Pi L K) := by
  refine Con2.of (by decide +kernel) (by simp [Value.category]) (Nat.le_of_ble_eq_true rfl) (fun X hX hT => ?_)
  have hX : OK X D cX9_wash "TeaHouseModel" 2 := hX
  have hT : RT X l D (some .int) (P2 (Pi L K)) 3 0 0 := hT
  have hR := hT.room
  change J2 X D 2 0 0 I L 0 [.ref 190, .int a1] []
  rw [f_X9_wash] at h
  refine q_aload_n hX dX9_wash_0 rfl ?_
  refine q_V_v hX hR (w_X9_begins  h) lk_X9_67 (rc2_of (ci := 10) rfl rfl) dX9_wash_1 rfl rfl (Nat.le_of_ble_eq_true rfl) (by omega) (by omega) (by omega) ?_
  intro I1 h
  refine q_aload_n hX dX9_wash_4 rfl ?_
  refine q_aload_n hX dX9_wash_5 rfl ?_
  refine q_iload_n hX dX9_wash_6 rfl ?_
  refine q_V_i hX hR (w_X9_washes  h) lk_X9_122 (rc2_of (ci := 10) rfl rfl) dX9_wash_7 rfl rfl (Nat.le_of_ble_eq_true rfl) (by omega) (by omega) (by omega) ?_
  intro x2 I3 h
  refine q_iconst hX dX9_wash_10 (v := (nI 0)) (by decide) ?_
  refine q_iconst hX dX9_wash_11 (v := (nI 1)) (by decide) ?_
  refine q_iconst hX dX9_wash_12 (v := (nI 2)) (by decide) ?_
  refine q_iconst hX dX9_wash_13 (v := (nI 0)) (by decide) ?_
  refine q_V_i hX hR (w_X9_ends  h) lk_X9_73 (rc2_of (ci := 10) rfl rfl) dX9_wash_14 rfl rfl (Nat.le_of_ble_eq_true rfl) (by omega) (by omega) (by omega) ?_
  intro x4 I5 h
  exact q_iret hX hT dX9_wash_17 h
set_option maxRecDepth 100000 in
set_option maxHeartbeats 4000000 in
theorem w_X9_sells {l : Launch} {D : DT} {L : LT} {a1 : Int32} {I : IT} {K : Int32 → IT → Prop}  (h : f_X9_sells a1 I K) : Con2 l D m_X9_sells 2 [.ref 190, .int a1] 0 0 I L (Pi L K) := by
  refine Con2.of (by decide +kernel) (by simp [Value.category]) (Nat.le_of_ble_eq_true rfl) (fun X hX hT => ?_)
  have hX : OK X D cX9_sells "TeaHouseModel" 2 := hX
  have hT : RT X l D (some .int) (P2 (Pi L K)) 2 0 0 := hT
  have hR := hT.room
  change J2 X D 2 0 0 I L 0 [.ref 190, .int a1] []
  rw [f_X9_sells] at h
  refine q_iload_n hX dX9_sells_0 rfl ?_
  refine q_iconst hX dX9_sells_1 (v := (nI 1)) (by decide) ?_
  refine q_bipush hX dX9_sells_2 (v := (nI 80)) (by decide) ?_
  refine q_S_zp hX hR (w_X9_in  h) lk_X9_44 dX9_sells_4 rfl rfl (Nat.le_of_ble_eq_true rfl) (by omega) (by omega) (by omega) ?_
  intro x1 hrx1 h
  refine q_if_ne hX dX9_sells_7 (tgt := 12) (by decide) (fun q2 => ?_) (fun q2 => ?_)
  · replace h := ite_f q2 h
    refine q_iload_n hX dX9_sells_12 rfl ?_
    refine q_aload_n hX dX9_sells_13 rfl ?_
    refine q_getR hX gf_X9_9 rfl dX9_sells_14 (at_of (n := 0) rfl) (b := 191) rfl ?_
    refine q_iconst hX dX9_sells_17 (v := (nI 5)) (by decide) ?_
    refine q_iald hX dX9_sells_18 (at_of (a := 191) (t := 22) (n := 1236) rfl) (j := 5) rfl (by decide) (by decide) ?_
    refine q_icmp_le hX dX9_sells_19 (tgt := 24) (by decide) (fun q3 => ?_) (fun q3 => ?_)
    · replace h := ite_t q3 h
      refine q_aload_n hX dX9_sells_24 rfl ?_
      refine q_getR hX gf_X9_9 rfl dX9_sells_25 (at_of (n := 0) rfl) (b := 191) rfl ?_
      refine q_iconst hX dX9_sells_28 (v := (nI 5)) (by decide) ?_
      refine q_dup2 hX dX9_sells_29 rfl rfl ?_
      refine q_iald hX dX9_sells_30 (at_of (a := 191) (t := 22) (n := 1236) rfl) (j := 5) rfl (by decide) (by decide) ?_
      refine q_iload_n hX dX9_sells_31 rfl ?_
      refine q_isub hX dX9_sells_32 ?_
      replace h := wr_e h
      refine q_iast hX dX9_sells_33 (at_of (a := 191) (t := 22) (n := 1236) rfl) (j := 5) rfl (by decide) (by decide) rfl ?_
      generalize up2 _ _ _ _ = I4 at h ⊢
      refine q_aload_n hX dX9_sells_34 rfl ?_
      refine q_iload_n hX dX9_sells_35 rfl ?_
      refine q_aload_n hX dX9_sells_36 rfl ?_
      refine q_getR hX gf_X9_9 rfl dX9_sells_37 (at_of (n := 0) rfl) (b := 191) rfl ?_
      refine q_bipush hX dX9_sells_40 (v := (nI 10)) (by decide) ?_
      refine q_iald hX dX9_sells_42 (at_of (a := 191) (t := 22) (n := 1236) rfl) (j := 10) rfl (by decide) (by decide) ?_
      refine q_imul hX dX9_sells_43 ?_
      replace h := wr_e h
      refine q_putI hX pf_X9_40 rfl dX9_sells_44 (at_of (n := 0) rfl) rfl rfl ?_
      generalize up2 _ _ _ _ = I5 at h ⊢
      refine q_aload_n hX dX9_sells_47 rfl ?_
      refine q_bipush hX dX9_sells_48 (v := (nI 18)) (by decide) ?_
      refine q_aload_n hX dX9_sells_50 rfl ?_
      refine q_getI hX gf_X9_40 rfl dX9_sells_51 (at_of (n := 0) rfl) ?_
      refine q_V_v hX hR (w_X9_earns  h) lk_X9_115 (rc2_of (ci := 10) rfl rfl) dX9_sells_54 rfl rfl (Nat.le_of_ble_eq_true rfl) (by omega) (by omega) (by omega) ?_
      intro I6 h
      refine q_iconst hX dX9_sells_57 (v := (nI 0)) (by decide) ?_
      exact q_iret hX hT dX9_sells_58 h
    · replace h := ite_f q3 h
      refine q_iconst hX dX9_sells_22 (v := (nI 3)) (by decide) ?_
      exact q_iret hX hT dX9_sells_23 h
  · replace h := ite_t q2 h
    refine q_iconst hX dX9_sells_10 (v := (nI 2)) (by decide) ?_
    exact q_iret hX hT dX9_sells_11 h
set_option maxRecDepth 100000 in
set_option maxHeartbeats 4000000 in
theorem w_X9_sellSteam {l : Launch} {D : DT} {L : LT} {a1 : Int32} {I : IT} {K : UInt32 → IT → Prop}  (h : f_X9_sellSteam a1 I K) : Con2 l D m_X9_sellSteam 3 [.ref 190, .int a1] 0 0 I L (Pf L K) := by
  refine Con2.of (by decide +kernel) (by simp [Value.category]) (Nat.le_of_ble_eq_true rfl) (fun X hX hT => ?_)
  have hX : OK X D cX9_sellSteam "TeaHouseModel" 2 := hX
  have hT : RT X l D (some .float) (P2 (Pf L K)) 3 0 0 := hT
  have hR := hT.room
  change J2 X D 2 0 0 I L 0 [.ref 190, .int a1] []
  rw [f_X9_sellSteam] at h
  refine q_aload_n hX dX9_sellSteam_0 rfl ?_
  refine q_V_v hX hR (w_X9_begins  h) lk_X9_67 (rc2_of (ci := 10) rfl rfl) dX9_sellSteam_1 rfl rfl (Nat.le_of_ble_eq_true rfl) (by omega) (by omega) (by omega) ?_
  intro I1 h
  refine q_aload_n hX dX9_sellSteam_4 rfl ?_
  refine q_aload_n hX dX9_sellSteam_5 rfl ?_
  refine q_iload_n hX dX9_sellSteam_6 rfl ?_
  refine q_V_i hX hR (w_X9_sells  h) lk_X9_125 (rc2_of (ci := 10) rfl rfl) dX9_sellSteam_7 rfl rfl (Nat.le_of_ble_eq_true rfl) (by omega) (by omega) (by omega) ?_
  intro x2 I3 h
  refine q_iconst hX dX9_sellSteam_10 (v := (nI 0)) (by decide) ?_
  refine q_iconst hX dX9_sellSteam_11 (v := (nI 1)) (by decide) ?_
  refine q_iconst hX dX9_sellSteam_12 (v := (nI 2)) (by decide) ?_
  refine q_iconst hX dX9_sellSteam_13 (v := (nI 0)) (by decide) ?_
  refine q_V_i hX hR (w_X9_ends  h) lk_X9_73 (rc2_of (ci := 10) rfl rfl) dX9_sellSteam_14 rfl rfl (Nat.le_of_ble_eq_true rfl) (by omega) (by omega) (by omega) ?_
  intro x4 I5 h
  refine q_S_fp hX hR (w_X9_eighths  h) lk_X9_128 dX9_sellSteam_17 rfl rfl (Nat.le_of_ble_eq_true rfl) (by omega) (by omega) (by omega) ?_
  intro x6 h
  exact q_fret hX hT dX9_sellSteam_20 h
set_option maxRecDepth 100000 in
set_option maxHeartbeats 4000000 in
theorem w_X9_prices {l : Launch} {D : DT} {L : LT} {a1 : Int32} {a2 : Int32} {I : IT} {K : Int32 → IT → Prop}  (h : f_X9_prices a1 a2 I K) : Con2 l D m_X9_prices 2 [.ref 190, .int a1, .int a2] 0 0 I L (Pi L K) := by
  refine Con2.of (by decide +kernel) (by simp [Value.category]) (Nat.le_of_ble_eq_true rfl) (fun X hX hT => ?_)
  have hX : OK X D cX9_prices "TeaHouseModel" 3 := hX
  have hT : RT X l D (some .int) (P2 (Pi L K)) 2 0 0 := hT
  have hR := hT.room
  change J2 X D 3 0 0 I L 0 [.ref 190, .int a1, .int a2] []
  rw [f_X9_prices] at h
  refine q_iload_n hX dX9_prices_0 rfl ?_
  refine q_iconst hX dX9_prices_1 (v := (nI 1)) (by decide) ?_
  refine q_bipush hX dX9_prices_2 (v := (nI 80)) (by decide) ?_
  refine q_S_zp hX hR (w_X9_in  h) lk_X9_44 dX9_prices_4 rfl rfl (Nat.le_of_ble_eq_true rfl) (by omega) (by omega) (by omega) ?_
  intro x1 hrx1 h
  refine q_if_ne hX dX9_prices_7 (tgt := 12) (by decide) (fun q2 => ?_) (fun q2 => ?_)
  · replace h := ite_f q2 h
    refine q_aload_n hX dX9_prices_12 rfl ?_
    refine q_aload_n hX dX9_prices_13 rfl ?_
    refine q_getR hX gf_X9_9 rfl dX9_prices_14 (at_of (n := 0) rfl) (b := 191) rfl ?_
    refine q_iload_n hX dX9_prices_17 rfl ?_
    obtain ⟨z3, h⟩ := h
    refine q_iald hX dX9_prices_18 (at_of (a := 191) (t := 22) (n := 1236) rfl) (inr_e z3) (inr_lt z3) (by decide) ?_
    replace h := wr_e h
    refine q_putI hX pf_X9_40 rfl dX9_prices_19 (at_of (n := 0) rfl) rfl rfl ?_
    generalize up2 _ _ _ _ = I4 at h ⊢
    refine q_aload_n hX dX9_prices_22 rfl ?_
    refine q_getR hX gf_X9_9 rfl dX9_prices_23 (at_of (n := 0) rfl) (b := 191) rfl ?_
    refine q_iload_n hX dX9_prices_26 rfl ?_
    refine q_iload_n hX dX9_prices_27 rfl ?_
    replace h := wr_e h
    refine q_iast hX dX9_prices_28 (at_of (a := 191) (t := 22) (n := 1236) rfl) (inr_e z3) (inr_lt z3) (by decide) rfl ?_
    generalize up2 _ _ _ _ = I5 at h ⊢
    refine q_iconst hX dX9_prices_29 (v := (nI 0)) (by decide) ?_
    exact q_iret hX hT dX9_prices_30 h
  · replace h := ite_t q2 h
    refine q_iconst hX dX9_prices_10 (v := (nI 2)) (by decide) ?_
    exact q_iret hX hT dX9_prices_11 h
set_option maxRecDepth 100000 in
set_option maxHeartbeats 4000000 in
theorem w_X9_setCupPrice {l : Launch} {D : DT} {L : LT} {a1 : Int32} {I : IT} {K : UInt32 → IT → Prop}  (h : f_X9_setCupPrice a1 I K) : Con2 l D m_X9_setCupPrice 3 [.ref 190, .int a1] 0 0 I L (Pf L K) := by
  refine Con2.of (by decide +kernel) (by simp [Value.category]) (Nat.le_of_ble_eq_true rfl) (fun X hX hT => ?_)
  have hX : OK X D cX9_setCupPrice "TeaHouseModel" 2 := hX
  have hT : RT X l D (some .float) (P2 (Pf L K)) 3 0 0 := hT
  have hR := hT.room
  change J2 X D 2 0 0 I L 0 [.ref 190, .int a1] []
  rw [f_X9_setCupPrice] at h
  refine q_aload_n hX dX9_setCupPrice_0 rfl ?_
  refine q_V_v hX hR (w_X9_begins  h) lk_X9_67 (rc2_of (ci := 10) rfl rfl) dX9_setCupPrice_1 rfl rfl (Nat.le_of_ble_eq_true rfl) (by omega) (by omega) (by omega) ?_
  intro I1 h
  refine q_aload_n hX dX9_setCupPrice_4 rfl ?_
  refine q_aload_n hX dX9_setCupPrice_5 rfl ?_
  refine q_bipush hX dX9_setCupPrice_6 (v := (nI 9)) (by decide) ?_
  refine q_iload_n hX dX9_setCupPrice_8 rfl ?_
  refine q_V_i hX hR (w_X9_prices  h) lk_X9_131 (rc2_of (ci := 10) rfl rfl) dX9_setCupPrice_9 rfl rfl (Nat.le_of_ble_eq_true rfl) (by omega) (by omega) (by omega) ?_
  intro x2 I3 h
  refine q_iconst hX dX9_setCupPrice_12 (v := (nI 0)) (by decide) ?_
  refine q_iconst hX dX9_setCupPrice_13 (v := (nI 1)) (by decide) ?_
  refine q_iconst hX dX9_setCupPrice_14 (v := (nI 0)) (by decide) ?_
  refine q_iconst hX dX9_setCupPrice_15 (v := (nI 0)) (by decide) ?_
  refine q_V_i hX hR (w_X9_ends  h) lk_X9_73 (rc2_of (ci := 10) rfl rfl) dX9_setCupPrice_16 rfl rfl (Nat.le_of_ble_eq_true rfl) (by omega) (by omega) (by omega) ?_
  intro x4 I5 h
  refine q_S_fp hX hR (w_X9_eighths  h) lk_X9_128 dX9_setCupPrice_19 rfl rfl (Nat.le_of_ble_eq_true rfl) (by omega) (by omega) (by omega) ?_
  intro x6 h
  exact q_fret hX hT dX9_setCupPrice_22 h
set_option maxRecDepth 100000 in
set_option maxHeartbeats 4000000 in
theorem w_X9_setSteamPrice {l : Launch} {D : DT} {L : LT} {a1 : Int32} {I : IT} {K : UInt32 → IT → Prop}  (h : f_X9_setSteamPrice a1 I K) : Con2 l D m_X9_setSteamPrice 3 [.ref 190, .int a1] 0 0 I L (Pf L K) := by
  refine Con2.of (by decide +kernel) (by simp [Value.category]) (Nat.le_of_ble_eq_true rfl) (fun X hX hT => ?_)
  have hX : OK X D cX9_setSteamPrice "TeaHouseModel" 2 := hX
  have hT : RT X l D (some .float) (P2 (Pf L K)) 3 0 0 := hT
  have hR := hT.room
  change J2 X D 2 0 0 I L 0 [.ref 190, .int a1] []
  rw [f_X9_setSteamPrice] at h
  refine q_aload_n hX dX9_setSteamPrice_0 rfl ?_
  refine q_V_v hX hR (w_X9_begins  h) lk_X9_67 (rc2_of (ci := 10) rfl rfl) dX9_setSteamPrice_1 rfl rfl (Nat.le_of_ble_eq_true rfl) (by omega) (by omega) (by omega) ?_
  intro I1 h
  refine q_aload_n hX dX9_setSteamPrice_4 rfl ?_
  refine q_aload_n hX dX9_setSteamPrice_5 rfl ?_
  refine q_bipush hX dX9_setSteamPrice_6 (v := (nI 10)) (by decide) ?_
  refine q_iload_n hX dX9_setSteamPrice_8 rfl ?_
  refine q_V_i hX hR (w_X9_prices  h) lk_X9_131 (rc2_of (ci := 10) rfl rfl) dX9_setSteamPrice_9 rfl rfl (Nat.le_of_ble_eq_true rfl) (by omega) (by omega) (by omega) ?_
  intro x2 I3 h
  refine q_iconst hX dX9_setSteamPrice_12 (v := (nI 0)) (by decide) ?_
  refine q_iconst hX dX9_setSteamPrice_13 (v := (nI 1)) (by decide) ?_
  refine q_iconst hX dX9_setSteamPrice_14 (v := (nI 0)) (by decide) ?_
  refine q_iconst hX dX9_setSteamPrice_15 (v := (nI 0)) (by decide) ?_
  refine q_V_i hX hR (w_X9_ends  h) lk_X9_73 (rc2_of (ci := 10) rfl rfl) dX9_setSteamPrice_16 rfl rfl (Nat.le_of_ble_eq_true rfl) (by omega) (by omega) (by omega) ?_
  intro x4 I5 h
  refine q_i2f hX dX9_setSteamPrice_19 ?_
  exact q_fret hX hT dX9_setSteamPrice_20 h
set_option maxRecDepth 100000 in
set_option maxHeartbeats 4000000 in
theorem w_X9_attends_b26 {X : XT} {D : DT} {l : Launch} {L : LT} {a1 : Int32} {K : Int32 → IT → Prop} (hX : OK X D cX9_attends "TeaHouseModel" 2) (hT : RT X l D (some .int) (P2 (Pi L K)) 1 0 0)   : ∀ (s2 : Int32) (I : IT), isZ s2 → isC s2 → f_X9_attends_b26 a1 K s2 I → J2 X D 2 0 0 I L 26 [.retAddr 0, .retAddr 0] [.int s2, .int (nI 11), .ref 191] := by
  have hR := hT.room
  intro s2 I hzs2 hcs2 h
  rw [f_X9_attends_b26] at h
  replace h := wr_e h
  refine q_iast hX dX9_attends_26 (at_of (a := 191) (t := 22) (n := 1236) rfl) (j := 11) rfl (by decide) (by decide) rfl ?_
  generalize up2 _ _ _ _ = I1 at h ⊢
  refine q_iconst hX dX9_attends_27 (v := (nI 0)) (by decide) ?_
  exact q_iret hX hT dX9_attends_28 h
set_option maxRecDepth 100000 in
set_option maxHeartbeats 4000000 in
theorem w_X9_attends {l : Launch} {D : DT} {L : LT} {a1 : Int32} {I : IT} {K : Int32 → IT → Prop}  (h : f_X9_attends a1 I K) : Con2 l D m_X9_attends 1 [.ref 190, .int a1] 0 0 I L (Pi L K) := by
  refine Con2.of (by decide +kernel) (by simp [Value.category]) (Nat.le_of_ble_eq_true rfl) (fun X hX hT => ?_)
  have hX : OK X D cX9_attends "TeaHouseModel" 2 := hX
  have hT : RT X l D (some .int) (P2 (Pi L K)) 1 0 0 := hT
  have hR := hT.room
  change J2 X D 2 0 0 I L 0 [.ref 190, .int a1] []
  rw [f_X9_attends] at h
  refine q_aload_n hX dX9_attends_0 rfl ?_
  refine q_aload_n hX dX9_attends_1 rfl ?_
  refine q_getR hX gf_X9_9 rfl dX9_attends_2 (at_of (n := 0) rfl) (b := 191) rfl ?_
  refine q_bipush hX dX9_attends_5 (v := (nI 11)) (by decide) ?_
  refine q_iald hX dX9_attends_7 (at_of (a := 191) (t := 22) (n := 1236) rfl) (j := 11) rfl (by decide) (by decide) ?_
  replace h := wr_e h
  refine q_putI hX pf_X9_40 rfl dX9_attends_8 (at_of (n := 0) rfl) rfl rfl ?_
  generalize up2 _ _ _ _ = I1 at h ⊢
  refine q_aload_n hX dX9_attends_11 rfl ?_
  refine q_getR hX gf_X9_9 rfl dX9_attends_12 (at_of (n := 0) rfl) (b := 191) rfl ?_
  refine q_bipush hX dX9_attends_15 (v := (nI 11)) (by decide) ?_
  refine q_iload_n hX dX9_attends_17 rfl ?_
  refine q_if_le hX dX9_attends_18 (tgt := 25) (by decide) (fun q2 => ?_) (fun q2 => ?_)
  · replace h := ite_t q2 h
    refine q_iconst hX dX9_attends_25 (v := (nI 0)) (by decide) ?_
    exact q_dr (w_X9_attends_b26 hX hT    _ _ (Or.inl rfl) (isC_n (by decide)) h) ⟨Or.inr rfl, Or.inr rfl, trivial⟩
  · replace h := ite_f q2 h
    refine q_iconst hX dX9_attends_21 (v := (nI 1)) (by decide) ?_
    refine q_goto hX dX9_attends_22 (tgt := 26) (by decide) ?_
    exact q_dr (w_X9_attends_b26 hX hT    _ _ (Or.inr rfl) (isC_n (by decide)) h) ⟨Or.inr rfl, Or.inr rfl, trivial⟩
set_option maxRecDepth 100000 in
set_option maxHeartbeats 4000000 in
theorem w_X9_setAttendant_b15 {X : XT} {D : DT} {l : Launch} {L : LT} {a1 : Int32} {K : Int32 → IT → Prop} (hX : OK X D cX9_setAttendant "TeaHouseModel" 2) (hT : RT X l D (some .boolean) (P2 (Pz L K)) 3 0 0) (ha1 : isZ a1)  : ∀ (s2 : Int32) (I : IT), isZ s2 → isC s2 → f_X9_setAttendant_b15 a1 K s2 I → J2 X D 2 0 0 I L 15 [.retAddr 0, .retAddr 0] [.int s2, .ref 190, .ref 190] := by
  have hR := hT.room
  intro s2 I hzs2 hcs2 h
  rw [f_X9_setAttendant_b15] at h
  refine q_V_i hX hR (w_X9_attends  h) lk_X9_134 (rc2_of (ci := 10) rfl rfl) dX9_setAttendant_15 rfl rfl (Nat.le_of_ble_eq_true rfl) (by omega) (by omega) (by omega) ?_
  intro x1 I2 h
  refine q_iconst hX dX9_setAttendant_18 (v := (nI 0)) (by decide) ?_
  refine q_iconst hX dX9_setAttendant_19 (v := (nI 0)) (by decide) ?_
  refine q_iconst hX dX9_setAttendant_20 (v := (nI 0)) (by decide) ?_
  refine q_iconst hX dX9_setAttendant_21 (v := (nI 0)) (by decide) ?_
  refine q_V_i hX hR (w_X9_ends  h) lk_X9_73 (rc2_of (ci := 10) rfl rfl) dX9_setAttendant_22 rfl rfl (Nat.le_of_ble_eq_true rfl) (by omega) (by omega) (by omega) ?_
  intro x3 I4 h
  refine q_iconst hX dX9_setAttendant_25 (v := (nI 1)) (by decide) ?_
  refine q_icmp_ne hX dX9_setAttendant_26 (tgt := 33) (by decide) (fun q5 => ?_) (fun q5 => ?_)
  · replace h := ite_f q5 h
    refine q_iconst hX dX9_setAttendant_33 (v := (nI 0)) (by decide) ?_
    exact q_zret hX hT dX9_setAttendant_34 (Or.inl rfl) h
  · replace h := ite_t q5 h
    refine q_iconst hX dX9_setAttendant_29 (v := (nI 1)) (by decide) ?_
    refine q_goto hX dX9_setAttendant_30 (tgt := 34) (by decide) ?_
    exact q_zret hX hT dX9_setAttendant_34 (Or.inr rfl) h
set_option maxRecDepth 100000 in
set_option maxHeartbeats 4000000 in
theorem w_X9_setAttendant {l : Launch} {D : DT} {L : LT} {a1 : Int32} {I : IT} {K : Int32 → IT → Prop} (ha1 : isZ a1) (h : f_X9_setAttendant a1 I K) : Con2 l D m_X9_setAttendant 3 [.ref 190, .int a1] 0 0 I L (Pz L K) := by
  refine Con2.of (by decide +kernel) (by simp [Value.category]) (Nat.le_of_ble_eq_true rfl) (fun X hX hT => ?_)
  have hX : OK X D cX9_setAttendant "TeaHouseModel" 2 := hX
  have hT : RT X l D (some .boolean) (P2 (Pz L K)) 3 0 0 := hT
  have hR := hT.room
  change J2 X D 2 0 0 I L 0 [.ref 190, .int a1] []
  rw [f_X9_setAttendant] at h
  refine q_aload_n hX dX9_setAttendant_0 rfl ?_
  refine q_V_v hX hR (w_X9_begins  h) lk_X9_67 (rc2_of (ci := 10) rfl rfl) dX9_setAttendant_1 rfl rfl (Nat.le_of_ble_eq_true rfl) (by omega) (by omega) (by omega) ?_
  intro I1 h
  refine q_aload_n hX dX9_setAttendant_4 rfl ?_
  refine q_aload_n hX dX9_setAttendant_5 rfl ?_
  refine q_iload_n hX dX9_setAttendant_6 rfl ?_
  refine q_if_eq hX dX9_setAttendant_7 (tgt := 14) (by decide) (fun q2 => ?_) (fun q2 => ?_)
  · replace h := ite_t q2 h
    refine q_iconst hX dX9_setAttendant_14 (v := (nI 0)) (by decide) ?_
    exact q_dr (w_X9_setAttendant_b15 hX hT ha1   _ _ (Or.inl rfl) (isC_n (by decide)) h) ⟨Or.inr rfl, Or.inr rfl, trivial⟩
  · replace h := ite_f q2 h
    refine q_iconst hX dX9_setAttendant_10 (v := (nI 1)) (by decide) ?_
    refine q_goto hX dX9_setAttendant_11 (tgt := 15) (by decide) ?_
    exact q_dr (w_X9_setAttendant_b15 hX hT ha1   _ _ (Or.inr rfl) (isC_n (by decide)) h) ⟨Or.inr rfl, Or.inr rfl, trivial⟩
set_option maxRecDepth 100000 in
set_option maxHeartbeats 4000000 in
theorem w_X9_passes_b36 {X : XT} {D : DT} {l : Launch} {L : LT} {a1 : Int32} {K : Int32 → IT → Prop} {X19 : Int32 → IT → Prop} (hX : OK X D cX9_passes "TeaHouseModel" 4) (hT : RT X l D (some .int) (P2 (Pi L K)) 3 0 0)  (hx19 : ∀ (v2 : Int32) (I : IT), X19 v2 I → J2 X D 4 0 0 I L 19 [.ref 190, .int a1, .int v2, .retAddr 0] []) : ∀ (n : Nat), ∀ (v2 : Int32) (v3 : Int32) (I : IT), f_X9_passes_b36 a1 X19 K n v2 v3 I → J2 X D 4 0 0 I L 36 [.ref 190, .int a1, .int v2, .int v3] [] := by
  have hR := hT.room
  intro n
  induction n with
  | zero => intro v2 v3 I h; exact False.elim h
  | succ n ih =>
    intro v2 v3 I h
    rw [f_X9_passes_b36] at h
    refine q_iload_n hX dX9_passes_36 rfl ?_
    refine q_aload_n hX dX9_passes_37 rfl ?_
    refine q_getR hX gf_X9_9 rfl dX9_passes_38 (at_of (n := 0) rfl) (b := 191) rfl ?_
    refine q_iconst hX dX9_passes_41 (v := (nI 1)) (by decide) ?_
    refine q_iald hX dX9_passes_42 (at_of (a := 191) (t := 22) (n := 1236) rfl) (j := 1) rfl (by decide) (by decide) ?_
    refine q_icmp_ge hX dX9_passes_43 (tgt := 66) (by decide) (fun q1 => ?_) (fun q1 => ?_)
    · replace h := ite_t q1 h
      replace h := bnd_e h
      refine q_iinc hX dX9_passes_66 (by decide) rfl (v := _ + nI 1) (ls' := [_, _, _, _]) rfl rfl ?_
      refine q_goto hX dX9_passes_69 (tgt := 19) (by decide) ?_
      exact q_dr (hx19 _ _  h) ⟨Or.inl rfl, Or.inl rfl, Or.inl rfl, Or.inr rfl, trivial⟩
    · replace h := ite_f q1 h
      refine q_aload_n hX dX9_passes_46 rfl ?_
      refine q_dup hX dX9_passes_47 rfl ?_
      refine q_getI hX gf_X9_40 rfl dX9_passes_48 (at_of (n := 0) rfl) ?_
      refine q_aload_n hX dX9_passes_51 rfl ?_
      refine q_iload_n hX dX9_passes_52 rfl ?_
      refine q_V_i hX hR (w_X9_heats  h) lk_X9_137 (rc2_of (ci := 10) rfl rfl) dX9_passes_53 rfl rfl (Nat.le_of_ble_eq_true rfl) (by omega) (by omega) (by omega) ?_
      intro x3 I4 h
      refine q_iadd hX dX9_passes_56 ?_
      replace h := wr_e h
      refine q_putI hX pf_X9_40 rfl dX9_passes_57 (at_of (n := 0) rfl) rfl rfl ?_
      generalize up2 _ _ _ _ = I5 at h ⊢
      replace h := bnd_e h
      refine q_iinc hX dX9_passes_60 (by decide) rfl (v := _ + nI 1) (ls' := [_, _, _, _]) rfl rfl ?_
      refine q_goto hX dX9_passes_63 (tgt := 36) (by decide) ?_
      exact q_dr (ih _ _ _  h) ⟨Or.inl rfl, Or.inl rfl, Or.inl rfl, Or.inl rfl, trivial⟩
set_option maxRecDepth 100000 in
set_option maxHeartbeats 4000000 in
theorem w_X9_passes_b19 {X : XT} {D : DT} {l : Launch} {L : LT} {a1 : Int32} {K : Int32 → IT → Prop} (hX : OK X D cX9_passes "TeaHouseModel" 4) (hT : RT X l D (some .int) (P2 (Pi L K)) 3 0 0)   : ∀ (n : Nat), ∀ (v2 : Int32) (I : IT), f_X9_passes_b19 a1 K n v2 I → J2 X D 4 0 0 I L 19 [.ref 190, .int a1, .int v2, .retAddr 0] [] := by
  have hR := hT.room
  intro n
  induction n with
  | zero => intro v2 I h; exact False.elim h
  | succ n ih =>
    intro v2 I h
    rw [f_X9_passes_b19] at h
    refine q_iload_n hX dX9_passes_19 rfl ?_
    refine q_iload_n hX dX9_passes_20 rfl ?_
    refine q_icmp_ge hX dX9_passes_21 (tgt := 72) (by decide) (fun q1 => ?_) (fun q1 => ?_)
    · replace h := ite_t q1 h
      refine q_iconst hX dX9_passes_72 (v := (nI 0)) (by decide) ?_
      exact q_iret hX hT dX9_passes_73 h
    · replace h := ite_f q1 h
      refine q_aload_n hX dX9_passes_24 rfl ?_
      refine q_getR hX gf_X9_9 rfl dX9_passes_25 (at_of (n := 0) rfl) (b := 191) rfl ?_
      refine q_iconst hX dX9_passes_28 (v := (nI 0)) (by decide) ?_
      refine q_dup2 hX dX9_passes_29 rfl rfl ?_
      refine q_iald hX dX9_passes_30 (at_of (a := 191) (t := 22) (n := 1236) rfl) (j := 0) rfl (by decide) (by decide) ?_
      refine q_iconst hX dX9_passes_31 (v := (nI 1)) (by decide) ?_
      refine q_iadd hX dX9_passes_32 ?_
      replace h := wr_e h
      refine q_iast hX dX9_passes_33 (at_of (a := 191) (t := 22) (n := 1236) rfl) (j := 0) rfl (by decide) (by decide) rfl ?_
      generalize up2 _ _ _ _ = I2 at h ⊢
      refine q_iconst hX dX9_passes_34 (v := (nI 0)) (by decide) ?_
      refine q_istore_n hX dX9_passes_35 (by decide) (ls' := [_, _, _, _]) rfl ?_
      exact q_dr (w_X9_passes_b36 hX hT  (fun _ _ h => ih _ _  h) _  _ _ _  h) ⟨Or.inl rfl, Or.inl rfl, Or.inl rfl, Or.inl rfl, trivial⟩
set_option maxRecDepth 100000 in
set_option maxHeartbeats 4000000 in
theorem w_X9_passes {l : Launch} {D : DT} {L : LT} {a1 : Int32} {I : IT} {K : Int32 → IT → Prop}  (h : f_X9_passes a1 I K) : Con2 l D m_X9_passes 3 [.ref 190, .int a1] 0 0 I L (Pi L K) := by
  refine Con2.of (by decide +kernel) (by simp [Value.category]) (Nat.le_of_ble_eq_true rfl) (fun X hX hT => ?_)
  have hX : OK X D cX9_passes "TeaHouseModel" 4 := hX
  have hT : RT X l D (some .int) (P2 (Pi L K)) 3 0 0 := hT
  have hR := hT.room
  change J2 X D 4 0 0 I L 0 [.ref 190, .int a1, .retAddr 0, .retAddr 0] []
  rw [f_X9_passes] at h
  refine q_iload_n hX dX9_passes_0 rfl ?_
  refine q_iconst hX dX9_passes_1 (v := (nI 1)) (by decide) ?_
  refine q_bipush hX dX9_passes_2 (v := (nI 120)) (by decide) ?_
  refine q_S_zp hX hR (w_X9_in  h) lk_X9_44 dX9_passes_4 rfl rfl (Nat.le_of_ble_eq_true rfl) (by omega) (by omega) (by omega) ?_
  intro x1 hrx1 h
  refine q_if_ne hX dX9_passes_7 (tgt := 12) (by decide) (fun q2 => ?_) (fun q2 => ?_)
  · replace h := ite_f q2 h
    refine q_aload_n hX dX9_passes_12 rfl ?_
    refine q_iconst hX dX9_passes_13 (v := (nI 0)) (by decide) ?_
    replace h := wr_e h
    refine q_putI hX pf_X9_40 rfl dX9_passes_14 (at_of (n := 0) rfl) rfl rfl ?_
    generalize up2 _ _ _ _ = I3 at h ⊢
    refine q_iconst hX dX9_passes_17 (v := (nI 0)) (by decide) ?_
    refine q_istore_n hX dX9_passes_18 (by decide) (ls' := [_, _, _, _]) rfl ?_
    exact q_dr (w_X9_passes_b19 hX hT   _  _ _  h) ⟨Or.inl rfl, Or.inl rfl, Or.inl rfl, Or.inl rfl, trivial⟩
  · replace h := ite_t q2 h
    refine q_iconst hX dX9_passes_10 (v := (nI 2)) (by decide) ?_
    exact q_iret hX hT dX9_passes_11 h
set_option maxRecDepth 100000 in
set_option maxHeartbeats 4000000 in
theorem w_X9_pass {l : Launch} {D : DT} {L : LT} {a1 : Int32} {I : IT} {K : Int32 → IT → Prop}  (h : f_X9_pass a1 I K) : Con2 l D m_X9_pass 4 [.ref 190, .int a1] 0 0 I L (Pi L K) := by
  refine Con2.of (by decide +kernel) (by simp [Value.category]) (Nat.le_of_ble_eq_true rfl) (fun X hX hT => ?_)
  have hX : OK X D cX9_pass "TeaHouseModel" 2 := hX
  have hT : RT X l D (some .int) (P2 (Pi L K)) 4 0 0 := hT
  have hR := hT.room
  change J2 X D 2 0 0 I L 0 [.ref 190, .int a1] []
  rw [f_X9_pass] at h
  refine q_aload_n hX dX9_pass_0 rfl ?_
  refine q_V_v hX hR (w_X9_begins  h) lk_X9_67 (rc2_of (ci := 10) rfl rfl) dX9_pass_1 rfl rfl (Nat.le_of_ble_eq_true rfl) (by omega) (by omega) (by omega) ?_
  intro I1 h
  refine q_aload_n hX dX9_pass_4 rfl ?_
  refine q_aload_n hX dX9_pass_5 rfl ?_
  refine q_iload_n hX dX9_pass_6 rfl ?_
  refine q_V_i hX hR (w_X9_passes  h) lk_X9_140 (rc2_of (ci := 10) rfl rfl) dX9_pass_7 rfl rfl (Nat.le_of_ble_eq_true rfl) (by omega) (by omega) (by omega) ?_
  intro x2 I3 h
  refine q_iconst hX dX9_pass_10 (v := (nI 0)) (by decide) ?_
  refine q_iconst hX dX9_pass_11 (v := (nI 1)) (by decide) ?_
  refine q_iconst hX dX9_pass_12 (v := (nI 0)) (by decide) ?_
  refine q_iconst hX dX9_pass_13 (v := (nI 0)) (by decide) ?_
  refine q_V_i hX hR (w_X9_ends  h) lk_X9_73 (rc2_of (ci := 10) rfl rfl) dX9_pass_14 rfl rfl (Nat.le_of_ble_eq_true rfl) (by omega) (by omega) (by omega) ?_
  intro x4 I5 h
  exact q_iret hX hT dX9_pass_17 h
set_option maxRecDepth 100000 in
set_option maxHeartbeats 4000000 in
theorem w_X9_closes {l : Launch} {D : DT} {L : LT}  {I : IT} {K : Int32 → IT → Prop}  (h : f_X9_closes  I K) : Con2 l D m_X9_closes 1 [.ref 190] 0 0 I L (Pi L K) := by
  refine Con2.of (by decide +kernel) (by simp [Value.category]) (Nat.le_of_ble_eq_true rfl) (fun X hX hT => ?_)
  have hX : OK X D cX9_closes "TeaHouseModel" 1 := hX
  have hT : RT X l D (some .int) (P2 (Pi L K)) 1 0 0 := hT
  have hR := hT.room
  change J2 X D 1 0 0 I L 0 [.ref 190] []
  rw [f_X9_closes] at h
  refine q_aload_n hX dX9_closes_0 rfl ?_
  refine q_getR hX gf_X9_9 rfl dX9_closes_1 (at_of (n := 0) rfl) (b := 191) rfl ?_
  refine q_bipush hX dX9_closes_4 (v := (nI 13)) (by decide) ?_
  refine q_iald hX dX9_closes_6 (at_of (a := 191) (t := 22) (n := 1236) rfl) (j := 13) rfl (by decide) (by decide) ?_
  refine q_bipush hX dX9_closes_7 (v := (nI 14)) (by decide) ?_
  refine q_icmp_ne hX dX9_closes_9 (tgt := 14) (by decide) (fun q1 => ?_) (fun q1 => ?_)
  · replace h := ite_f q1 h
    refine q_aload_n hX dX9_closes_14 rfl ?_
    refine q_aload_n hX dX9_closes_15 rfl ?_
    refine q_getR hX gf_X9_9 rfl dX9_closes_16 (at_of (n := 0) rfl) (b := 191) rfl ?_
    refine q_bipush hX dX9_closes_19 (v := (nI 12)) (by decide) ?_
    refine q_iald hX dX9_closes_21 (at_of (a := 191) (t := 22) (n := 1236) rfl) (j := 12) rfl (by decide) (by decide) ?_
    replace h := wr_e h
    refine q_putI hX pf_X9_40 rfl dX9_closes_22 (at_of (n := 0) rfl) rfl rfl ?_
    generalize up2 _ _ _ _ = I2 at h ⊢
    refine q_aload_n hX dX9_closes_25 rfl ?_
    refine q_getR hX gf_X9_9 rfl dX9_closes_26 (at_of (n := 0) rfl) (b := 191) rfl ?_
    refine q_bipush hX dX9_closes_29 (v := (nI 19)) (by decide) ?_
    refine q_aload_n hX dX9_closes_31 rfl ?_
    refine q_getR hX gf_X9_9 rfl dX9_closes_32 (at_of (n := 0) rfl) (b := 191) rfl ?_
    refine q_bipush hX dX9_closes_35 (v := (nI 13)) (by decide) ?_
    refine q_iald hX dX9_closes_37 (at_of (a := 191) (t := 22) (n := 1236) rfl) (j := 13) rfl (by decide) (by decide) ?_
    refine q_iadd hX dX9_closes_38 ?_
    refine q_aload_n hX dX9_closes_39 rfl ?_
    refine q_getI hX gf_X9_40 rfl dX9_closes_40 (at_of (n := 0) rfl) ?_
    obtain ⟨z3, h⟩ := h
    replace h := wr_e h
    refine q_iast hX dX9_closes_43 (at_of (a := 191) (t := 22) (n := 1236) rfl) (inr_e z3) (inr_lt z3) (by decide) rfl ?_
    generalize up2 _ _ _ _ = I4 at h ⊢
    refine q_aload_n hX dX9_closes_44 rfl ?_
    refine q_getR hX gf_X9_9 rfl dX9_closes_45 (at_of (n := 0) rfl) (b := 191) rfl ?_
    refine q_bipush hX dX9_closes_48 (v := (nI 13)) (by decide) ?_
    refine q_dup2 hX dX9_closes_50 rfl rfl ?_
    refine q_iald hX dX9_closes_51 (at_of (a := 191) (t := 22) (n := 1236) rfl) (j := 13) rfl (by decide) (by decide) ?_
    refine q_iconst hX dX9_closes_52 (v := (nI 1)) (by decide) ?_
    refine q_iadd hX dX9_closes_53 ?_
    replace h := wr_e h
    refine q_iast hX dX9_closes_54 (at_of (a := 191) (t := 22) (n := 1236) rfl) (j := 13) rfl (by decide) (by decide) rfl ?_
    generalize up2 _ _ _ _ = I5 at h ⊢
    refine q_aload_n hX dX9_closes_55 rfl ?_
    refine q_getR hX gf_X9_9 rfl dX9_closes_56 (at_of (n := 0) rfl) (b := 191) rfl ?_
    refine q_bipush hX dX9_closes_59 (v := (nI 12)) (by decide) ?_
    refine q_iconst hX dX9_closes_61 (v := (nI 0)) (by decide) ?_
    replace h := wr_e h
    refine q_iast hX dX9_closes_62 (at_of (a := 191) (t := 22) (n := 1236) rfl) (j := 12) rfl (by decide) (by decide) rfl ?_
    generalize up2 _ _ _ _ = I6 at h ⊢
    refine q_iconst hX dX9_closes_63 (v := (nI 0)) (by decide) ?_
    exact q_iret hX hT dX9_closes_64 h
  · replace h := ite_t q1 h
    refine q_iconst hX dX9_closes_12 (v := (nI 3)) (by decide) ?_
    exact q_iret hX hT dX9_closes_13 h
set_option maxRecDepth 100000 in
set_option maxHeartbeats 4000000 in
theorem w_X9_closeNight {l : Launch} {D : DT} {L : LT}  {I : IT} {K : UInt32 → IT → Prop}  (h : f_X9_closeNight  I K) : Con2 l D m_X9_closeNight 3 [.ref 190] 0 0 I L (Pf L K) := by
  refine Con2.of (by decide +kernel) (by simp [Value.category]) (Nat.le_of_ble_eq_true rfl) (fun X hX hT => ?_)
  have hX : OK X D cX9_closeNight "TeaHouseModel" 1 := hX
  have hT : RT X l D (some .float) (P2 (Pf L K)) 3 0 0 := hT
  have hR := hT.room
  change J2 X D 1 0 0 I L 0 [.ref 190] []
  rw [f_X9_closeNight] at h
  refine q_aload_n hX dX9_closeNight_0 rfl ?_
  refine q_V_v hX hR (w_X9_begins  h) lk_X9_67 (rc2_of (ci := 10) rfl rfl) dX9_closeNight_1 rfl rfl (Nat.le_of_ble_eq_true rfl) (by omega) (by omega) (by omega) ?_
  intro I1 h
  refine q_aload_n hX dX9_closeNight_4 rfl ?_
  refine q_aload_n hX dX9_closeNight_5 rfl ?_
  refine q_V_i hX hR (w_X9_closes  h) lk_X9_143 (rc2_of (ci := 10) rfl rfl) dX9_closeNight_6 rfl rfl (Nat.le_of_ble_eq_true rfl) (by omega) (by omega) (by omega) ?_
  intro x2 I3 h
  refine q_iconst hX dX9_closeNight_9 (v := (nI 0)) (by decide) ?_
  refine q_iconst hX dX9_closeNight_10 (v := (nI 0)) (by decide) ?_
  refine q_iconst hX dX9_closeNight_11 (v := (nI 1)) (by decide) ?_
  refine q_iconst hX dX9_closeNight_12 (v := (nI 0)) (by decide) ?_
  refine q_V_i hX hR (w_X9_ends  h) lk_X9_73 (rc2_of (ci := 10) rfl rfl) dX9_closeNight_13 rfl rfl (Nat.le_of_ble_eq_true rfl) (by omega) (by omega) (by omega) ?_
  intro x4 I5 h
  refine q_S_fp hX hR (w_X9_eighths  h) lk_X9_128 dX9_closeNight_16 rfl rfl (Nat.le_of_ble_eq_true rfl) (by omega) (by omega) (by omega) ?_
  intro x6 h
  exact q_fret hX hT dX9_closeNight_19 h
set_option maxRecDepth 100000 in
set_option maxHeartbeats 4000000 in
theorem w_X9_told {l : Launch} {D : DT} {L : LT} {a1 : Int32} {I : IT} {K : Int32 → IT → Prop}  (h : f_X9_told a1 I K) : Con2 l D m_X9_told 1 [.ref 190, .int a1] 0 0 I L (Pi L K) := by
  refine Con2.of (by decide +kernel) (by simp [Value.category]) (Nat.le_of_ble_eq_true rfl) (fun X hX hT => ?_)
  have hX : OK X D cX9_told "TeaHouseModel" 2 := hX
  have hT : RT X l D (some .int) (P2 (Pi L K)) 1 0 0 := hT
  have hR := hT.room
  change J2 X D 2 0 0 I L 0 [.ref 190, .int a1] []
  rw [f_X9_told] at h
  refine q_aload_n hX dX9_told_0 rfl ?_
  refine q_iconst hX dX9_told_1 (v := (nI 0)) (by decide) ?_
  replace h := wr_e h
  refine q_putI hX pf_X9_30 rfl dX9_told_2 (at_of (n := 0) rfl) rfl rfl ?_
  generalize up2 _ _ _ _ = I1 at h ⊢
  refine q_aload_n hX dX9_told_5 rfl ?_
  refine q_getR hX gf_X9_9 rfl dX9_told_6 (at_of (n := 0) rfl) (b := 191) rfl ?_
  refine q_iload_n hX dX9_told_9 rfl ?_
  obtain ⟨z2, h⟩ := h
  refine q_iald hX dX9_told_10 (at_of (a := 191) (t := 22) (n := 1236) rfl) (inr_e z2) (inr_lt z2) (by decide) ?_
  exact q_iret hX hT dX9_told_11 h
set_option maxRecDepth 100000 in
set_option maxHeartbeats 4000000 in
theorem w_X9_kettleCount {l : Launch} {D : DT} {L : LT}  {I : IT} {K : Int32 → IT → Prop}  (h : f_X9_kettleCount  I K) : Con2 l D m_X9_kettleCount 2 [.ref 190] 0 0 I L (Pi L K) := by
  refine Con2.of (by decide +kernel) (by simp [Value.category]) (Nat.le_of_ble_eq_true rfl) (fun X hX hT => ?_)
  have hX : OK X D cX9_kettleCount "TeaHouseModel" 1 := hX
  have hT : RT X l D (some .int) (P2 (Pi L K)) 2 0 0 := hT
  have hR := hT.room
  change J2 X D 1 0 0 I L 0 [.ref 190] []
  rw [f_X9_kettleCount] at h
  refine q_aload_n hX dX9_kettleCount_0 rfl ?_
  refine q_iconst hX dX9_kettleCount_1 (v := (nI 1)) (by decide) ?_
  refine q_V_i hX hR (w_X9_told  h) lk_X9_146 (rc2_of (ci := 10) rfl rfl) dX9_kettleCount_2 rfl rfl (Nat.le_of_ble_eq_true rfl) (by omega) (by omega) (by omega) ?_
  intro x1 I2 h
  exact q_iret hX hT dX9_kettleCount_5 h
set_option maxRecDepth 100000 in
set_option maxHeartbeats 4000000 in
theorem w_X9_ofKettle {l : Launch} {D : DT} {L : LT} {a1 : Int32} {a2 : Int32} {I : IT} {K : Int32 → IT → Prop}  (h : f_X9_ofKettle a1 a2 I K) : Con2 l D m_X9_ofKettle 3 [.ref 190, .int a1, .int a2] 0 0 I L (Pi L K) := by
  refine Con2.of (by decide +kernel) (by simp [Value.category]) (Nat.le_of_ble_eq_true rfl) (fun X hX hT => ?_)
  have hX : OK X D cX9_ofKettle "TeaHouseModel" 3 := hX
  have hT : RT X l D (some .int) (P2 (Pi L K)) 3 0 0 := hT
  have hR := hT.room
  change J2 X D 3 0 0 I L 0 [.ref 190, .int a1, .int a2] []
  rw [f_X9_ofKettle] at h
  refine q_aload_n hX dX9_ofKettle_0 rfl ?_
  refine q_aload_n hX dX9_ofKettle_1 rfl ?_
  refine q_iload_n hX dX9_ofKettle_2 rfl ?_
  refine q_V_zp hX hR (w_X9_isKettle  h) lk_X9_77 (rc2_of (ci := 10) rfl rfl) dX9_ofKettle_3 rfl rfl (Nat.le_of_ble_eq_true rfl) (by omega) (by omega) (by omega) ?_
  intro x1 hrx1 h
  refine q_V_z hX hR (w_X9_isFine hrx1 h) lk_X9_149 (rc2_of (ci := 10) rfl rfl) dX9_ofKettle_6 rfl rfl (Nat.le_of_ble_eq_true rfl) (by omega) (by omega) (by omega) ?_
  intro x2 I3 hrx2 h
  refine q_if_eq hX dX9_ofKettle_9 (tgt := 21) (by decide) (fun q4 => ?_) (fun q4 => ?_)
  · replace h := ite_t q4 h
    refine q_iconst hX dX9_ofKettle_21 (v := (nI 0)) (by decide) ?_
    exact q_iret hX hT dX9_ofKettle_22 h
  · replace h := ite_f q4 h
    refine q_aload_n hX dX9_ofKettle_12 rfl ?_
    refine q_iload_n hX dX9_ofKettle_13 rfl ?_
    refine q_iload_n hX dX9_ofKettle_14 rfl ?_
    refine q_V_ip hX hR (w_X9_k  h) lk_X9_60 (rc2_of (ci := 10) rfl rfl) dX9_ofKettle_15 rfl rfl (Nat.le_of_ble_eq_true rfl) (by omega) (by omega) (by omega) ?_
    intro x5 h
    refine q_goto hX dX9_ofKettle_18 (tgt := 22) (by decide) ?_
    exact q_iret hX hT dX9_ofKettle_22 h
set_option maxRecDepth 100000 in
set_option maxHeartbeats 4000000 in
theorem w_X9_capacity {l : Launch} {D : DT} {L : LT} {a1 : Int32} {I : IT} {K : UInt32 → IT → Prop}  (h : f_X9_capacity a1 I K) : Con2 l D m_X9_capacity 4 [.ref 190, .int a1] 0 0 I L (Pf L K) := by
  refine Con2.of (by decide +kernel) (by simp [Value.category]) (Nat.le_of_ble_eq_true rfl) (fun X hX hT => ?_)
  have hX : OK X D cX9_capacity "TeaHouseModel" 2 := hX
  have hT : RT X l D (some .float) (P2 (Pf L K)) 4 0 0 := hT
  have hR := hT.room
  change J2 X D 2 0 0 I L 0 [.ref 190, .int a1] []
  rw [f_X9_capacity] at h
  refine q_aload_n hX dX9_capacity_0 rfl ?_
  refine q_iload_n hX dX9_capacity_1 rfl ?_
  refine q_iconst hX dX9_capacity_2 (v := (nI 0)) (by decide) ?_
  refine q_V_i hX hR (w_X9_ofKettle  h) lk_X9_153 (rc2_of (ci := 10) rfl rfl) dX9_capacity_3 rfl rfl (Nat.le_of_ble_eq_true rfl) (by omega) (by omega) (by omega) ?_
  intro x1 I2 h
  refine q_S_fp hX hR (w_X9_eighths  h) lk_X9_128 dX9_capacity_6 rfl rfl (Nat.le_of_ble_eq_true rfl) (by omega) (by omega) (by omega) ?_
  intro x3 h
  exact q_fret hX hT dX9_capacity_9 h
set_option maxRecDepth 100000 in
set_option maxHeartbeats 4000000 in
theorem w_X9_volume {l : Launch} {D : DT} {L : LT} {a1 : Int32} {I : IT} {K : UInt32 → IT → Prop}  (h : f_X9_volume a1 I K) : Con2 l D m_X9_volume 4 [.ref 190, .int a1] 0 0 I L (Pf L K) := by
  refine Con2.of (by decide +kernel) (by simp [Value.category]) (Nat.le_of_ble_eq_true rfl) (fun X hX hT => ?_)
  have hX : OK X D cX9_volume "TeaHouseModel" 2 := hX
  have hT : RT X l D (some .float) (P2 (Pf L K)) 4 0 0 := hT
  have hR := hT.room
  change J2 X D 2 0 0 I L 0 [.ref 190, .int a1] []
  rw [f_X9_volume] at h
  refine q_aload_n hX dX9_volume_0 rfl ?_
  refine q_iload_n hX dX9_volume_1 rfl ?_
  refine q_iconst hX dX9_volume_2 (v := (nI 1)) (by decide) ?_
  refine q_V_i hX hR (w_X9_ofKettle  h) lk_X9_153 (rc2_of (ci := 10) rfl rfl) dX9_volume_3 rfl rfl (Nat.le_of_ble_eq_true rfl) (by omega) (by omega) (by omega) ?_
  intro x1 I2 h
  refine q_S_fp hX hR (w_X9_eighths  h) lk_X9_128 dX9_volume_6 rfl rfl (Nat.le_of_ble_eq_true rfl) (by omega) (by omega) (by omega) ?_
  intro x3 h
  exact q_fret hX hT dX9_volume_9 h
set_option maxRecDepth 100000 in
set_option maxHeartbeats 4000000 in
theorem w_X9_temperature {l : Launch} {D : DT} {L : LT} {a1 : Int32} {I : IT} {K : UInt32 → IT → Prop}  (h : f_X9_temperature a1 I K) : Con2 l D m_X9_temperature 4 [.ref 190, .int a1] 0 0 I L (Pf L K) := by
  refine Con2.of (by decide +kernel) (by simp [Value.category]) (Nat.le_of_ble_eq_true rfl) (fun X hX hT => ?_)
  have hX : OK X D cX9_temperature "TeaHouseModel" 2 := hX
  have hT : RT X l D (some .float) (P2 (Pf L K)) 4 0 0 := hT
  have hR := hT.room
  change J2 X D 2 0 0 I L 0 [.ref 190, .int a1] []
  rw [f_X9_temperature] at h
  refine q_aload_n hX dX9_temperature_0 rfl ?_
  refine q_iload_n hX dX9_temperature_1 rfl ?_
  refine q_iconst hX dX9_temperature_2 (v := (nI 2)) (by decide) ?_
  refine q_V_i hX hR (w_X9_ofKettle  h) lk_X9_153 (rc2_of (ci := 10) rfl rfl) dX9_temperature_3 rfl rfl (Nat.le_of_ble_eq_true rfl) (by omega) (by omega) (by omega) ?_
  intro x1 I2 h
  refine q_S_fp hX hR (w_X9_halves  h) lk_X9_84 dX9_temperature_6 rfl rfl (Nat.le_of_ble_eq_true rfl) (by omega) (by omega) (by omega) ?_
  intro x3 h
  exact q_fret hX hT dX9_temperature_9 h
set_option maxRecDepth 100000 in
set_option maxHeartbeats 4000000 in
theorem w_X9_temperatureBits {l : Launch} {D : DT} {L : LT} {a1 : Int32} {I : IT} {K : Int32 → IT → Prop}  (h : f_X9_temperatureBits a1 I K) : Con2 l D m_X9_temperatureBits 9 [.ref 190, .int a1] 0 0 I L (Pi L K) := by
  refine Con2.of (by decide +kernel) (by simp [Value.category]) (Nat.le_of_ble_eq_true rfl) (fun X hX hT => ?_)
  have hX : OK X D cX9_temperatureBits "TeaHouseModel" 2 := hX
  have hT : RT X l D (some .int) (P2 (Pi L K)) 9 0 0 := hT
  have hR := hT.room
  change J2 X D 2 0 0 I L 0 [.ref 190, .int a1] []
  rw [f_X9_temperatureBits] at h
  refine q_aload_n hX dX9_temperatureBits_0 rfl ?_
  refine q_aload_n hX dX9_temperatureBits_1 rfl ?_
  refine q_iload_n hX dX9_temperatureBits_2 rfl ?_
  refine q_V_zp hX hR (w_X9_isKettle  h) lk_X9_77 (rc2_of (ci := 10) rfl rfl) dX9_temperatureBits_3 rfl rfl (Nat.le_of_ble_eq_true rfl) (by omega) (by omega) (by omega) ?_
  intro x1 hrx1 h
  refine q_V_z hX hR (w_X9_isFine hrx1 h) lk_X9_149 (rc2_of (ci := 10) rfl rfl) dX9_temperatureBits_6 rfl rfl (Nat.le_of_ble_eq_true rfl) (by omega) (by omega) (by omega) ?_
  intro x2 I3 hrx2 h
  refine q_if_eq hX dX9_temperatureBits_9 (tgt := 27) (by decide) (fun q4 => ?_) (fun q4 => ?_)
  · replace h := ite_t q4 h
    refine q_iconst hX dX9_temperatureBits_27 (v := (nI 0)) (by decide) ?_
    exact q_iret hX hT dX9_temperatureBits_28 h
  · replace h := ite_f q4 h
    refine q_aload_n hX dX9_temperatureBits_12 rfl ?_
    refine q_iload_n hX dX9_temperatureBits_13 rfl ?_
    refine q_iconst hX dX9_temperatureBits_14 (v := (nI 2)) (by decide) ?_
    refine q_V_ip hX hR (w_X9_k  h) lk_X9_60 (rc2_of (ci := 10) rfl rfl) dX9_temperatureBits_15 rfl rfl (Nat.le_of_ble_eq_true rfl) (by omega) (by omega) (by omega) ?_
    intro x5 h
    refine q_S_fp hX hR (w_X9_halves  h) lk_X9_84 dX9_temperatureBits_18 rfl rfl (Nat.le_of_ble_eq_true rfl) (by omega) (by omega) (by omega) ?_
    intro x6 h
    refine q_S_ip hX hR (w_Jxf58ca_floatToIntBits_5c35a  h) lk_X9_156 dX9_temperatureBits_21 rfl rfl (Nat.le_of_ble_eq_true rfl) (by omega) (by omega) (by omega) ?_
    intro x7 h
    refine q_goto hX dX9_temperatureBits_24 (tgt := 28) (by decide) ?_
    exact q_iret hX hT dX9_temperatureBits_28 h
set_option maxRecDepth 100000 in
set_option maxHeartbeats 4000000 in
theorem w_X9_burner {l : Launch} {D : DT} {L : LT} {a1 : Int32} {I : IT} {K : Int32 → IT → Prop}  (h : f_X9_burner a1 I K) : Con2 l D m_X9_burner 4 [.ref 190, .int a1] 0 0 I L (Pi L K) := by
  refine Con2.of (by decide +kernel) (by simp [Value.category]) (Nat.le_of_ble_eq_true rfl) (fun X hX hT => ?_)
  have hX : OK X D cX9_burner "TeaHouseModel" 2 := hX
  have hT : RT X l D (some .int) (P2 (Pi L K)) 4 0 0 := hT
  have hR := hT.room
  change J2 X D 2 0 0 I L 0 [.ref 190, .int a1] []
  rw [f_X9_burner] at h
  refine q_aload_n hX dX9_burner_0 rfl ?_
  refine q_iload_n hX dX9_burner_1 rfl ?_
  refine q_iconst hX dX9_burner_2 (v := (nI 3)) (by decide) ?_
  refine q_V_i hX hR (w_X9_ofKettle  h) lk_X9_153 (rc2_of (ci := 10) rfl rfl) dX9_burner_3 rfl rfl (Nat.le_of_ble_eq_true rfl) (by omega) (by omega) (by omega) ?_
  intro x1 I2 h
  exact q_iret hX hT dX9_burner_6 h
set_option maxRecDepth 100000 in
set_option maxHeartbeats 4000000 in
theorem w_X9_isBoiling {l : Launch} {D : DT} {L : LT} {a1 : Int32} {I : IT} {K : Int32 → IT → Prop}  (h : f_X9_isBoiling a1 I K) : Con2 l D m_X9_isBoiling 4 [.ref 190, .int a1] 0 0 I L (Pz L K) := by
  refine Con2.of (by decide +kernel) (by simp [Value.category]) (Nat.le_of_ble_eq_true rfl) (fun X hX hT => ?_)
  have hX : OK X D cX9_isBoiling "TeaHouseModel" 2 := hX
  have hT : RT X l D (some .boolean) (P2 (Pz L K)) 4 0 0 := hT
  have hR := hT.room
  change J2 X D 2 0 0 I L 0 [.ref 190, .int a1] []
  rw [f_X9_isBoiling] at h
  refine q_aload_n hX dX9_isBoiling_0 rfl ?_
  refine q_iload_n hX dX9_isBoiling_1 rfl ?_
  refine q_iconst hX dX9_isBoiling_2 (v := (nI 4)) (by decide) ?_
  refine q_V_i hX hR (w_X9_ofKettle  h) lk_X9_153 (rc2_of (ci := 10) rfl rfl) dX9_isBoiling_3 rfl rfl (Nat.le_of_ble_eq_true rfl) (by omega) (by omega) (by omega) ?_
  intro x1 I2 h
  refine q_iconst hX dX9_isBoiling_6 (v := (nI 1)) (by decide) ?_
  refine q_icmp_ne hX dX9_isBoiling_7 (tgt := 14) (by decide) (fun q3 => ?_) (fun q3 => ?_)
  · replace h := ite_f q3 h
    refine q_iconst hX dX9_isBoiling_14 (v := (nI 0)) (by decide) ?_
    exact q_zret hX hT dX9_isBoiling_15 (Or.inl rfl) h
  · replace h := ite_t q3 h
    refine q_iconst hX dX9_isBoiling_10 (v := (nI 1)) (by decide) ?_
    refine q_goto hX dX9_isBoiling_11 (tgt := 15) (by decide) ?_
    exact q_zret hX hT dX9_isBoiling_15 (Or.inr rfl) h
set_option maxRecDepth 100000 in
set_option maxHeartbeats 4000000 in
theorem w_X9_minutesUntilBoiling_b36 {X : XT} {D : DT} {l : Launch} {L : LT} {a1 : Int32} {K : Int32 → IT → Prop} (hX : OK X D cX9_minutesUntilBoiling "TeaHouseModel" 4) (hT : RT X l D (some .int) (P2 (Pi L K)) 3 0 0)   : ∀ (s1 : Int32) (I : IT), isC s1 → f_X9_minutesUntilBoiling_b36 a1 K s1 I → J2 X D 4 0 0 I L 36 [.ref 190, .int a1, .retAddr 0, .retAddr 0] [.int s1, .ref 190] := by
  have hR := hT.room
  intro s1 I hcs1 h
  rw [f_X9_minutesUntilBoiling_b36] at h
  replace h := wr_e h
  refine q_putI hX pf_X9_30 rfl dX9_minutesUntilBoiling_36 (at_of (n := 0) rfl) rfl rfl ?_
  generalize up2 _ _ _ _ = I1 at h ⊢
  refine q_aload_n hX dX9_minutesUntilBoiling_39 rfl ?_
  refine q_getI hX gf_X9_30 rfl dX9_minutesUntilBoiling_40 (at_of (n := 0) rfl) ?_
  refine q_if_eq hX dX9_minutesUntilBoiling_43 (tgt := 48) (by decide) (fun q2 => ?_) (fun q2 => ?_)
  · replace h := ite_t q2 h
    refine q_iconst hX dX9_minutesUntilBoiling_48 (v := (nI 3)) (by decide) ?_
    refine q_aload_n hX dX9_minutesUntilBoiling_49 rfl ?_
    refine q_iload_n hX dX9_minutesUntilBoiling_50 rfl ?_
    refine q_iconst hX dX9_minutesUntilBoiling_51 (v := (nI 3)) (by decide) ?_
    refine q_V_ip hX hR (w_X9_k  h) lk_X9_60 (rc2_of (ci := 10) rfl rfl) dX9_minutesUntilBoiling_52 rfl rfl (Nat.le_of_ble_eq_true rfl) (by omega) (by omega) (by omega) ?_
    intro x3 h
    refine q_imul hX dX9_minutesUntilBoiling_55 ?_
    refine q_iconst hX dX9_minutesUntilBoiling_56 (v := (nI 1)) (by decide) ?_
    refine q_isub hX dX9_minutesUntilBoiling_57 ?_
    replace h := bnd_e h
    refine q_istore_n hX dX9_minutesUntilBoiling_58 (by decide) (ls' := [_, _, _, _]) rfl ?_
    refine q_sipush hX dX9_minutesUntilBoiling_59 (v := (nI 200)) (by decide) ?_
    refine q_aload_n hX dX9_minutesUntilBoiling_62 rfl ?_
    refine q_iload_n hX dX9_minutesUntilBoiling_63 rfl ?_
    refine q_iconst hX dX9_minutesUntilBoiling_64 (v := (nI 2)) (by decide) ?_
    refine q_V_ip hX hR (w_X9_k  h) lk_X9_60 (rc2_of (ci := 10) rfl rfl) dX9_minutesUntilBoiling_65 rfl rfl (Nat.le_of_ble_eq_true rfl) (by omega) (by omega) (by omega) ?_
    intro x5 h
    refine q_isub hX dX9_minutesUntilBoiling_68 ?_
    refine q_iload_n hX dX9_minutesUntilBoiling_69 rfl ?_
    refine q_iadd hX dX9_minutesUntilBoiling_70 ?_
    refine q_iconst hX dX9_minutesUntilBoiling_71 (v := (nI 1)) (by decide) ?_
    refine q_isub hX dX9_minutesUntilBoiling_72 ?_
    refine q_iload_n hX dX9_minutesUntilBoiling_73 rfl ?_
    obtain ⟨z6, h⟩ := h
    refine q_idiv hX dX9_minutesUntilBoiling_74 z6 ?_
    replace h := bnd_e h
    refine q_istore_n hX dX9_minutesUntilBoiling_75 (by decide) (ls' := [_, _, _, _]) rfl ?_
    refine q_iload_n hX dX9_minutesUntilBoiling_76 rfl ?_
    refine q_iconst hX dX9_minutesUntilBoiling_77 (v := (nI 1)) (by decide) ?_
    refine q_icmp_ge hX dX9_minutesUntilBoiling_78 (tgt := 85) (by decide) (fun q8 => ?_) (fun q8 => ?_)
    · replace h := ite_t q8 h
      refine q_iload_n hX dX9_minutesUntilBoiling_85 rfl ?_
      exact q_iret hX hT dX9_minutesUntilBoiling_86 h
    · replace h := ite_f q8 h
      refine q_iconst hX dX9_minutesUntilBoiling_81 (v := (nI 1)) (by decide) ?_
      refine q_goto hX dX9_minutesUntilBoiling_82 (tgt := 86) (by decide) ?_
      exact q_iret hX hT dX9_minutesUntilBoiling_86 h
  · replace h := ite_f q2 h
    refine q_iconst hX dX9_minutesUntilBoiling_46 (v := (nI 0)) (by decide) ?_
    exact q_iret hX hT dX9_minutesUntilBoiling_47 h
set_option maxRecDepth 100000 in
set_option maxHeartbeats 4000000 in
theorem w_X9_minutesUntilBoiling_b31 {X : XT} {D : DT} {l : Launch} {L : LT} {a1 : Int32} {K : Int32 → IT → Prop} (hX : OK X D cX9_minutesUntilBoiling "TeaHouseModel" 4) (hT : RT X l D (some .int) (P2 (Pi L K)) 3 0 0)   : ∀ (I : IT), f_X9_minutesUntilBoiling_b31 a1 K I → J2 X D 4 0 0 I L 31 [.ref 190, .int a1, .retAddr 0, .retAddr 0] [.ref 190] := by
  have hR := hT.room
  intro I h
  rw [f_X9_minutesUntilBoiling_b31] at h
  refine q_iconst hX dX9_minutesUntilBoiling_31 (v := (nI 2)) (by decide) ?_
  refine q_goto hX dX9_minutesUntilBoiling_32 (tgt := 36) (by decide) ?_
  exact q_dr (w_X9_minutesUntilBoiling_b36 hX hT    _ _ (isC_n (by decide)) h) ⟨Or.inl rfl, Or.inl rfl, Or.inl rfl, Or.inl rfl, trivial⟩
set_option maxRecDepth 100000 in
set_option maxHeartbeats 4000000 in
theorem w_X9_minutesUntilBoiling {l : Launch} {D : DT} {L : LT} {a1 : Int32} {I : IT} {K : Int32 → IT → Prop}  (h : f_X9_minutesUntilBoiling a1 I K) : Con2 l D m_X9_minutesUntilBoiling 3 [.ref 190, .int a1] 0 0 I L (Pi L K) := by
  refine Con2.of (by decide +kernel) (by simp [Value.category]) (Nat.le_of_ble_eq_true rfl) (fun X hX hT => ?_)
  have hX : OK X D cX9_minutesUntilBoiling "TeaHouseModel" 4 := hX
  have hT : RT X l D (some .int) (P2 (Pi L K)) 3 0 0 := hT
  have hR := hT.room
  change J2 X D 4 0 0 I L 0 [.ref 190, .int a1, .retAddr 0, .retAddr 0] []
  rw [f_X9_minutesUntilBoiling] at h
  refine q_aload_n hX dX9_minutesUntilBoiling_0 rfl ?_
  refine q_aload_n hX dX9_minutesUntilBoiling_1 rfl ?_
  refine q_iload_n hX dX9_minutesUntilBoiling_2 rfl ?_
  refine q_V_zp hX hR (w_X9_isKettle  h) lk_X9_77 (rc2_of (ci := 10) rfl rfl) dX9_minutesUntilBoiling_3 rfl rfl (Nat.le_of_ble_eq_true rfl) (by omega) (by omega) (by omega) ?_
  intro x1 hrx1 h
  refine q_if_ne hX dX9_minutesUntilBoiling_6 (tgt := 13) (by decide) (fun q2 => ?_) (fun q2 => ?_)
  · replace h := ite_f q2 h
    refine q_aload_n hX dX9_minutesUntilBoiling_13 rfl ?_
    refine q_iload_n hX dX9_minutesUntilBoiling_14 rfl ?_
    refine q_iconst hX dX9_minutesUntilBoiling_15 (v := (nI 1)) (by decide) ?_
    refine q_V_ip hX hR (w_X9_k  h) lk_X9_60 (rc2_of (ci := 10) rfl rfl) dX9_minutesUntilBoiling_16 rfl rfl (Nat.le_of_ble_eq_true rfl) (by omega) (by omega) (by omega) ?_
    intro x3 h
    refine q_if_eq hX dX9_minutesUntilBoiling_19 (tgt := 31) (by decide) (fun q4 => ?_) (fun q4 => ?_)
    · replace h := ite_t q4 h
      exact q_dr (w_X9_minutesUntilBoiling_b31 hX hT    _  h) ⟨Or.inl rfl, Or.inl rfl, Or.inl rfl, Or.inl rfl, trivial⟩
    · replace h := ite_f q4 h
      refine q_aload_n hX dX9_minutesUntilBoiling_22 rfl ?_
      refine q_iload_n hX dX9_minutesUntilBoiling_23 rfl ?_
      refine q_iconst hX dX9_minutesUntilBoiling_24 (v := (nI 3)) (by decide) ?_
      refine q_V_ip hX hR (w_X9_k  h) lk_X9_60 (rc2_of (ci := 10) rfl rfl) dX9_minutesUntilBoiling_25 rfl rfl (Nat.le_of_ble_eq_true rfl) (by omega) (by omega) (by omega) ?_
      intro x5 h
      refine q_if_ne hX dX9_minutesUntilBoiling_28 (tgt := 35) (by decide) (fun q6 => ?_) (fun q6 => ?_)
      · replace h := ite_f q6 h
        refine q_iconst hX dX9_minutesUntilBoiling_35 (v := (nI 0)) (by decide) ?_
        exact q_dr (w_X9_minutesUntilBoiling_b36 hX hT    _ _ (isC_n (by decide)) h) ⟨Or.inl rfl, Or.inl rfl, Or.inl rfl, Or.inl rfl, trivial⟩
      · replace h := ite_t q6 h
        exact q_dr (w_X9_minutesUntilBoiling_b31 hX hT    _  h) ⟨Or.inl rfl, Or.inl rfl, Or.inl rfl, Or.inl rfl, trivial⟩
  · replace h := ite_t q2 h
    refine q_iconst hX dX9_minutesUntilBoiling_9 (v := (nI 1)) (by decide) ?_
    refine q_goto hX dX9_minutesUntilBoiling_10 (tgt := 36) (by decide) ?_
    exact q_dr (w_X9_minutesUntilBoiling_b36 hX hT    _ _ (isC_n (by decide)) h) ⟨Or.inl rfl, Or.inl rfl, Or.inl rfl, Or.inl rfl, trivial⟩
set_option maxRecDepth 100000 in
set_option maxHeartbeats 4000000 in
theorem w_X9_minutesUntilBoilingByMinutes {l : Launch} {D : DT} {L : LT} {a1 : Int32} {I : IT} {K : Int32 → IT → Prop}  (h : f_X9_minutesUntilBoilingByMinutes a1 I K) : Con2 l D m_X9_minutesUntilBoilingByMinutes 4 [.ref 190, .int a1] 0 0 I L (Pi L K) := by
  refine Con2.of (by decide +kernel) (by simp [Value.category]) (Nat.le_of_ble_eq_true rfl) (fun X hX hT => ?_)
  have hX : OK X D cX9_minutesUntilBoilingByMinutes "TeaHouseModel" 2 := hX
  have hT : RT X l D (some .int) (P2 (Pi L K)) 4 0 0 := hT
  have hR := hT.room
  change J2 X D 2 0 0 I L 0 [.ref 190, .int a1] []
  rw [f_X9_minutesUntilBoilingByMinutes] at h
  refine q_aload_n hX dX9_minutesUntilBoilingByMinutes_0 rfl ?_
  refine q_iload_n hX dX9_minutesUntilBoilingByMinutes_1 rfl ?_
  refine q_V_i hX hR (w_X9_minutesUntilBoiling  h) lk_X9_162 (rc2_of (ci := 10) rfl rfl) dX9_minutesUntilBoilingByMinutes_2 rfl rfl (Nat.le_of_ble_eq_true rfl) (by omega) (by omega) (by omega) ?_
  intro x1 I2 h
  exact q_iret hX hT dX9_minutesUntilBoilingByMinutes_5 h
set_option maxRecDepth 100000 in
set_option maxHeartbeats 4000000 in
theorem w_X9_kettleByTemperature_b92 {X : XT} {D : DT} {l : Launch} {L : LT} {a1 : Int32} {K : Int32 → IT → Prop} {X17 : Int32 → Int32 → Int32 → IT → Prop} (hX : OK X D cX9_kettleByTemperature "TeaHouseModel" 7) (hT : RT X l D (some .int) (P2 (Pi L K)) 2 0 0)  (hx17 : ∀ (v2 : Int32) (v3 : Int32) (v4 : Int32) (I : IT), X17 v2 v3 v4 I → J2 X D 7 0 0 I L 17 [.ref 190, .int a1, .int v2, .int v3, .int v4, .retAddr 0, .retAddr 0] []) : ∀ (v2 : Int32) (v4 : Int32) (s0 : Int32) (s1 : Int32) (I : IT), isZ s1 → isC s1 → f_X9_kettleByTemperature_b92 a1 X17 K v2 v4 s0 s1 I → J2 X D 7 0 0 I L 92 [.ref 190, .int a1, .int v2, .retAddr 0, .int v4, .retAddr 0, .retAddr 0] [.int s1, .int s0] := by
  have hR := hT.room
  intro v2 v4 s0 s1 I hzs1 hcs1 h
  rw [f_X9_kettleByTemperature_b92] at h
  refine q_iadd hX dX9_kettleByTemperature_92 ?_
  replace h := bnd_e h
  refine q_istore_n hX dX9_kettleByTemperature_93 (by decide) (ls' := [_, _, _, _, _, _, _]) rfl ?_
  replace h := bnd_e h
  refine q_iinc hX dX9_kettleByTemperature_94 (by decide) rfl (v := _ + nI 1) (ls' := [_, _, _, _, _, _, _]) rfl rfl ?_
  refine q_goto hX dX9_kettleByTemperature_97 (tgt := 17) (by decide) ?_
  exact q_dr (hx17 _ _ _ _  h) ⟨Or.inl rfl, Or.inl rfl, Or.inl rfl, Or.inl rfl, Or.inl rfl, Or.inl rfl, Or.inl rfl, trivial⟩
set_option maxRecDepth 100000 in
set_option maxHeartbeats 4000000 in
theorem w_X9_kettleByTemperature_b87 {X : XT} {D : DT} {l : Launch} {L : LT} {a1 : Int32} {K : Int32 → IT → Prop} {X17 : Int32 → Int32 → Int32 → IT → Prop} (hX : OK X D cX9_kettleByTemperature "TeaHouseModel" 7) (hT : RT X l D (some .int) (P2 (Pi L K)) 2 0 0)  (hx17 : ∀ (v2 : Int32) (v3 : Int32) (v4 : Int32) (I : IT), X17 v2 v3 v4 I → J2 X D 7 0 0 I L 17 [.ref 190, .int a1, .int v2, .int v3, .int v4, .retAddr 0, .retAddr 0] []) : ∀ (v2 : Int32) (v4 : Int32) (s0 : Int32) (I : IT), f_X9_kettleByTemperature_b87 a1 X17 K v2 v4 s0 I → J2 X D 7 0 0 I L 87 [.ref 190, .int a1, .int v2, .retAddr 0, .int v4, .retAddr 0, .retAddr 0] [.int s0] := by
  have hR := hT.room
  intro v2 v4 s0 I h
  rw [f_X9_kettleByTemperature_b87] at h
  refine q_iconst hX dX9_kettleByTemperature_87 (v := (nI 1)) (by decide) ?_
  refine q_goto hX dX9_kettleByTemperature_88 (tgt := 92) (by decide) ?_
  exact q_dr (w_X9_kettleByTemperature_b92 hX hT  hx17  _ _ _ _ _ (Or.inr rfl) (isC_n (by decide)) h) ⟨Or.inl rfl, Or.inl rfl, Or.inl rfl, Or.inl rfl, Or.inl rfl, Or.inl rfl, Or.inl rfl, trivial⟩
set_option maxRecDepth 100000 in
set_option maxHeartbeats 4000000 in
theorem w_X9_kettleByTemperature_b91 {X : XT} {D : DT} {l : Launch} {L : LT} {a1 : Int32} {K : Int32 → IT → Prop} {X17 : Int32 → Int32 → Int32 → IT → Prop} (hX : OK X D cX9_kettleByTemperature "TeaHouseModel" 7) (hT : RT X l D (some .int) (P2 (Pi L K)) 2 0 0)  (hx17 : ∀ (v2 : Int32) (v3 : Int32) (v4 : Int32) (I : IT), X17 v2 v3 v4 I → J2 X D 7 0 0 I L 17 [.ref 190, .int a1, .int v2, .int v3, .int v4, .retAddr 0, .retAddr 0] []) : ∀ (v2 : Int32) (v4 : Int32) (s0 : Int32) (I : IT), f_X9_kettleByTemperature_b91 a1 X17 K v2 v4 s0 I → J2 X D 7 0 0 I L 91 [.ref 190, .int a1, .int v2, .retAddr 0, .int v4, .retAddr 0, .retAddr 0] [.int s0] := by
  have hR := hT.room
  intro v2 v4 s0 I h
  rw [f_X9_kettleByTemperature_b91] at h
  refine q_iconst hX dX9_kettleByTemperature_91 (v := (nI 0)) (by decide) ?_
  exact q_dr (w_X9_kettleByTemperature_b92 hX hT  hx17  _ _ _ _ _ (Or.inl rfl) (isC_n (by decide)) h) ⟨Or.inl rfl, Or.inl rfl, Or.inl rfl, Or.inl rfl, Or.inl rfl, Or.inl rfl, Or.inl rfl, trivial⟩
set_option maxRecDepth 100000 in
set_option maxHeartbeats 4000000 in
theorem w_X9_kettleByTemperature_b17 {X : XT} {D : DT} {l : Launch} {L : LT} {a1 : Int32} {K : Int32 → IT → Prop} {X111 : Int32 → Int32 → IT → Prop} (hX : OK X D cX9_kettleByTemperature "TeaHouseModel" 7) (hT : RT X l D (some .int) (P2 (Pi L K)) 2 0 0)  (hx111 : ∀ (v2 : Int32) (s1 : Int32) (I : IT), isZ s1 → isC s1 → X111 v2 s1 I → J2 X D 7 0 0 I L 111 [.ref 190, .int a1, .int v2, .retAddr 0, .retAddr 0, .retAddr 0, .retAddr 0] [.int s1, .ref 190]) : ∀ (n : Nat), ∀ (v2 : Int32) (v3 : Int32) (v4 : Int32) (I : IT), f_X9_kettleByTemperature_b17 a1 X111 K n v2 v3 v4 I → J2 X D 7 0 0 I L 17 [.ref 190, .int a1, .int v2, .int v3, .int v4, .retAddr 0, .retAddr 0] [] := by
  have hR := hT.room
  intro n
  induction n with
  | zero => intro v2 v3 v4 I h; exact False.elim h
  | succ n ih =>
    intro v2 v3 v4 I h
    rw [f_X9_kettleByTemperature_b17] at h
    refine q_iload hX dX9_kettleByTemperature_17 rfl ?_
    refine q_aload_n hX dX9_kettleByTemperature_19 rfl ?_
    refine q_getR hX gf_X9_9 rfl dX9_kettleByTemperature_20 (at_of (n := 0) rfl) (b := 191) rfl ?_
    refine q_iconst hX dX9_kettleByTemperature_23 (v := (nI 1)) (by decide) ?_
    refine q_iald hX dX9_kettleByTemperature_24 (at_of (a := 191) (t := 22) (n := 1236) rfl) (j := 1) rfl (by decide) (by decide) ?_
    refine q_icmp_ge hX dX9_kettleByTemperature_25 (tgt := 100) (by decide) (fun q1 => ?_) (fun q1 => ?_)
    · replace h := ite_t q1 h
      refine q_aload_n hX dX9_kettleByTemperature_100 rfl ?_
      refine q_iload_n hX dX9_kettleByTemperature_101 rfl ?_
      refine q_iload_n hX dX9_kettleByTemperature_102 rfl ?_
      refine q_icmp_ne hX dX9_kettleByTemperature_103 (tgt := 110) (by decide) (fun q2 => ?_) (fun q2 => ?_)
      · replace h := ite_f q2 h
        refine q_iconst hX dX9_kettleByTemperature_110 (v := (nI 0)) (by decide) ?_
        exact q_dr (hx111 _ _ _ (Or.inl rfl) (isC_n (by decide)) h) ⟨Or.inl rfl, Or.inl rfl, Or.inl rfl, Or.inr rfl, Or.inr rfl, Or.inl rfl, Or.inl rfl, trivial⟩
      · replace h := ite_t q2 h
        refine q_iconst hX dX9_kettleByTemperature_106 (v := (nI 1)) (by decide) ?_
        refine q_goto hX dX9_kettleByTemperature_107 (tgt := 111) (by decide) ?_
        exact q_dr (hx111 _ _ _ (Or.inr rfl) (isC_n (by decide)) h) ⟨Or.inl rfl, Or.inl rfl, Or.inl rfl, Or.inr rfl, Or.inr rfl, Or.inl rfl, Or.inl rfl, trivial⟩
    · replace h := ite_f q1 h
      refine q_aload_n hX dX9_kettleByTemperature_28 rfl ?_
      refine q_iload hX dX9_kettleByTemperature_29 rfl ?_
      refine q_iconst hX dX9_kettleByTemperature_31 (v := (nI 2)) (by decide) ?_
      refine q_V_ip hX hR (w_X9_k  h) lk_X9_60 (rc2_of (ci := 10) rfl rfl) dX9_kettleByTemperature_32 rfl rfl (Nat.le_of_ble_eq_true rfl) (by omega) (by omega) (by omega) ?_
      intro x3 h
      refine q_aload_n hX dX9_kettleByTemperature_35 rfl ?_
      refine q_iload_n hX dX9_kettleByTemperature_36 rfl ?_
      refine q_iconst hX dX9_kettleByTemperature_37 (v := (nI 2)) (by decide) ?_
      refine q_V_ip hX hR (w_X9_k  h) lk_X9_60 (rc2_of (ci := 10) rfl rfl) dX9_kettleByTemperature_38 rfl rfl (Nat.le_of_ble_eq_true rfl) (by omega) (by omega) (by omega) ?_
      intro x4 h
      refine q_isub hX dX9_kettleByTemperature_41 ?_
      replace h := bnd_e h
      refine q_istore hX dX9_kettleByTemperature_42 (by decide) (ls' := [_, _, _, _, _, _, _]) rfl ?_
      refine q_aload_n hX dX9_kettleByTemperature_44 rfl ?_
      refine q_iload hX dX9_kettleByTemperature_45 rfl ?_
      refine q_iconst hX dX9_kettleByTemperature_47 (v := (nI 1)) (by decide) ?_
      refine q_V_ip hX hR (w_X9_k  h) lk_X9_60 (rc2_of (ci := 10) rfl rfl) dX9_kettleByTemperature_48 rfl rfl (Nat.le_of_ble_eq_true rfl) (by omega) (by omega) (by omega) ?_
      intro x6 h
      refine q_aload_n hX dX9_kettleByTemperature_51 rfl ?_
      refine q_iload_n hX dX9_kettleByTemperature_52 rfl ?_
      refine q_iconst hX dX9_kettleByTemperature_53 (v := (nI 1)) (by decide) ?_
      refine q_V_ip hX hR (w_X9_k  h) lk_X9_60 (rc2_of (ci := 10) rfl rfl) dX9_kettleByTemperature_54 rfl rfl (Nat.le_of_ble_eq_true rfl) (by omega) (by omega) (by omega) ?_
      intro x7 h
      refine q_isub hX dX9_kettleByTemperature_57 ?_
      replace h := bnd_e h
      refine q_istore hX dX9_kettleByTemperature_58 (by decide) (ls' := [_, _, _, _, _, _, _]) rfl ?_
      refine q_iload_n hX dX9_kettleByTemperature_60 rfl ?_
      refine q_iload hX dX9_kettleByTemperature_61 rfl ?_
      refine q_if_gt hX dX9_kettleByTemperature_63 (tgt := 87) (by decide) (fun q9 => ?_) (fun q9 => ?_)
      · replace h := ite_t q9 h
        exact q_dr (w_X9_kettleByTemperature_b87 hX hT  (fun _ _ _ _ h => ih _ _ _ _  h)  _ _ _ _  h) ⟨Or.inl rfl, Or.inl rfl, Or.inl rfl, Or.inr rfl, Or.inl rfl, Or.inr rfl, Or.inr rfl, trivial⟩
      · replace h := ite_f q9 h
        refine q_iload hX dX9_kettleByTemperature_66 rfl ?_
        refine q_if_ne hX dX9_kettleByTemperature_68 (tgt := 91) (by decide) (fun q10 => ?_) (fun q10 => ?_)
        · replace h := ite_f q10 h
          exact q_dr (w_X9_kettleByTemperature_b91 hX hT  (fun _ _ _ _ h => ih _ _ _ _  h)  _ _ _ _  h) ⟨Or.inl rfl, Or.inl rfl, Or.inl rfl, Or.inr rfl, Or.inl rfl, Or.inr rfl, Or.inr rfl, trivial⟩
        · replace h := ite_t q10 h
          refine q_iload hX dX9_kettleByTemperature_71 rfl ?_
          refine q_if_gt hX dX9_kettleByTemperature_73 (tgt := 87) (by decide) (fun q11 => ?_) (fun q11 => ?_)
          · replace h := ite_t q11 h
            exact q_dr (w_X9_kettleByTemperature_b87 hX hT  (fun _ _ _ _ h => ih _ _ _ _  h)  _ _ _ _  h) ⟨Or.inl rfl, Or.inl rfl, Or.inl rfl, Or.inr rfl, Or.inl rfl, Or.inr rfl, Or.inr rfl, trivial⟩
          · replace h := ite_f q11 h
            refine q_iload hX dX9_kettleByTemperature_76 rfl ?_
            refine q_if_ne hX dX9_kettleByTemperature_78 (tgt := 91) (by decide) (fun q12 => ?_) (fun q12 => ?_)
            · replace h := ite_f q12 h
              exact q_dr (w_X9_kettleByTemperature_b91 hX hT  (fun _ _ _ _ h => ih _ _ _ _  h)  _ _ _ _  h) ⟨Or.inl rfl, Or.inl rfl, Or.inl rfl, Or.inr rfl, Or.inl rfl, Or.inr rfl, Or.inr rfl, trivial⟩
            · replace h := ite_t q12 h
              refine q_iload hX dX9_kettleByTemperature_81 rfl ?_
              refine q_iload_n hX dX9_kettleByTemperature_83 rfl ?_
              refine q_icmp_ge hX dX9_kettleByTemperature_84 (tgt := 91) (by decide) (fun q13 => ?_) (fun q13 => ?_)
              · replace h := ite_t q13 h
                exact q_dr (w_X9_kettleByTemperature_b91 hX hT  (fun _ _ _ _ h => ih _ _ _ _  h)  _ _ _ _  h) ⟨Or.inl rfl, Or.inl rfl, Or.inl rfl, Or.inr rfl, Or.inl rfl, Or.inr rfl, Or.inr rfl, trivial⟩
              · replace h := ite_f q13 h
                exact q_dr (w_X9_kettleByTemperature_b87 hX hT  (fun _ _ _ _ h => ih _ _ _ _  h)  _ _ _ _  h) ⟨Or.inl rfl, Or.inl rfl, Or.inl rfl, Or.inr rfl, Or.inl rfl, Or.inr rfl, Or.inr rfl, trivial⟩
set_option maxRecDepth 100000 in
set_option maxHeartbeats 4000000 in
theorem w_X9_kettleByTemperature_b111 {X : XT} {D : DT} {l : Launch} {L : LT} {a1 : Int32} {K : Int32 → IT → Prop} {X2 : Int32 → IT → Prop} (hX : OK X D cX9_kettleByTemperature "TeaHouseModel" 7) (hT : RT X l D (some .int) (P2 (Pi L K)) 2 0 0)  (hx2 : ∀ (v2 : Int32) (I : IT), X2 v2 I → J2 X D 7 0 0 I L 2 [.ref 190, .int a1, .int v2, .retAddr 0, .retAddr 0, .retAddr 0, .retAddr 0] []) : ∀ (v2 : Int32) (s1 : Int32) (I : IT), isZ s1 → isC s1 → f_X9_kettleByTemperature_b111 a1 X2 K v2 s1 I → J2 X D 7 0 0 I L 111 [.ref 190, .int a1, .int v2, .retAddr 0, .retAddr 0, .retAddr 0, .retAddr 0] [.int s1, .ref 190] := by
  have hR := hT.room
  intro v2 s1 I hzs1 hcs1 h
  rw [f_X9_kettleByTemperature_b111] at h
  refine q_V_z hX hR (w_X9_isFine hzs1 h) lk_X9_149 (rc2_of (ci := 10) rfl rfl) dX9_kettleByTemperature_111 rfl rfl (Nat.le_of_ble_eq_true rfl) (by omega) (by omega) (by omega) ?_
  intro x1 I2 hrx1 h
  refine q_if_eq hX dX9_kettleByTemperature_114 (tgt := 119) (by decide) (fun q3 => ?_) (fun q3 => ?_)
  · replace h := ite_t q3 h
    replace h := bnd_e h
    refine q_iinc hX dX9_kettleByTemperature_119 (by decide) rfl (v := _ + nI 1) (ls' := [_, _, _, _, _, _, _]) rfl rfl ?_
    refine q_goto hX dX9_kettleByTemperature_122 (tgt := 2) (by decide) ?_
    exact q_dr (hx2 _ _  h) ⟨Or.inl rfl, Or.inl rfl, Or.inl rfl, Or.inl rfl, Or.inl rfl, Or.inl rfl, Or.inl rfl, trivial⟩
  · replace h := ite_f q3 h
    refine q_iload_n hX dX9_kettleByTemperature_117 rfl ?_
    exact q_iret hX hT dX9_kettleByTemperature_118 h
set_option maxRecDepth 100000 in
set_option maxHeartbeats 4000000 in
theorem w_X9_kettleByTemperature_b2 {X : XT} {D : DT} {l : Launch} {L : LT} {a1 : Int32} {K : Int32 → IT → Prop} (hX : OK X D cX9_kettleByTemperature "TeaHouseModel" 7) (hT : RT X l D (some .int) (P2 (Pi L K)) 2 0 0)   : ∀ (n : Nat), ∀ (v2 : Int32) (I : IT), f_X9_kettleByTemperature_b2 a1 K n v2 I → J2 X D 7 0 0 I L 2 [.ref 190, .int a1, .int v2, .retAddr 0, .retAddr 0, .retAddr 0, .retAddr 0] [] := by
  have hR := hT.room
  intro n
  induction n with
  | zero => intro v2 I h; exact False.elim h
  | succ n ih =>
    intro v2 I h
    rw [f_X9_kettleByTemperature_b2] at h
    refine q_iload_n hX dX9_kettleByTemperature_2 rfl ?_
    refine q_aload_n hX dX9_kettleByTemperature_3 rfl ?_
    refine q_getR hX gf_X9_9 rfl dX9_kettleByTemperature_4 (at_of (n := 0) rfl) (b := 191) rfl ?_
    refine q_iconst hX dX9_kettleByTemperature_7 (v := (nI 1)) (by decide) ?_
    refine q_iald hX dX9_kettleByTemperature_8 (at_of (a := 191) (t := 22) (n := 1236) rfl) (j := 1) rfl (by decide) (by decide) ?_
    refine q_icmp_ge hX dX9_kettleByTemperature_9 (tgt := 125) (by decide) (fun q1 => ?_) (fun q1 => ?_)
    · replace h := ite_t q1 h
      refine q_aload_n hX dX9_kettleByTemperature_125 rfl ?_
      refine q_iconst hX dX9_kettleByTemperature_126 (v := (nI 1)) (by decide) ?_
      replace h := wr_e h
      refine q_putI hX pf_X9_30 rfl dX9_kettleByTemperature_127 (at_of (n := 0) rfl) rfl rfl ?_
      generalize up2 _ _ _ _ = I2 at h ⊢
      refine q_iconst hX dX9_kettleByTemperature_130 (v := (nI 0)) (by decide) ?_
      exact q_iret hX hT dX9_kettleByTemperature_131 h
    · replace h := ite_f q1 h
      refine q_iconst hX dX9_kettleByTemperature_12 (v := (nI 0)) (by decide) ?_
      refine q_istore_n hX dX9_kettleByTemperature_13 (by decide) (ls' := [_, _, _, _, _, _, _]) rfl ?_
      refine q_iconst hX dX9_kettleByTemperature_14 (v := (nI 0)) (by decide) ?_
      refine q_istore hX dX9_kettleByTemperature_15 (by decide) (ls' := [_, _, _, _, _, _, _]) rfl ?_
      exact q_dr (w_X9_kettleByTemperature_b17 hX hT  (fun _ _ _ hzs1 hcs1 h => w_X9_kettleByTemperature_b111 hX hT  (fun _ _ h => ih _ _  h)  _ _ _ hzs1 hcs1 h) _  _ _ _ _  h) ⟨Or.inl rfl, Or.inl rfl, Or.inl rfl, Or.inl rfl, Or.inl rfl, Or.inl rfl, Or.inl rfl, trivial⟩
set_option maxRecDepth 100000 in
set_option maxHeartbeats 4000000 in
theorem w_X9_kettleByTemperature {l : Launch} {D : DT} {L : LT} {a1 : Int32} {I : IT} {K : Int32 → IT → Prop}  (h : f_X9_kettleByTemperature a1 I K) : Con2 l D m_X9_kettleByTemperature 2 [.ref 190, .int a1] 0 0 I L (Pi L K) := by
  refine Con2.of (by decide +kernel) (by simp [Value.category]) (Nat.le_of_ble_eq_true rfl) (fun X hX hT => ?_)
  have hX : OK X D cX9_kettleByTemperature "TeaHouseModel" 7 := hX
  have hT : RT X l D (some .int) (P2 (Pi L K)) 2 0 0 := hT
  have hR := hT.room
  change J2 X D 7 0 0 I L 0 [.ref 190, .int a1, .retAddr 0, .retAddr 0, .retAddr 0, .retAddr 0, .retAddr 0] []
  rw [f_X9_kettleByTemperature] at h
  refine q_iconst hX dX9_kettleByTemperature_0 (v := (nI 0)) (by decide) ?_
  refine q_istore_n hX dX9_kettleByTemperature_1 (by decide) (ls' := [_, _, _, _, _, _, _]) rfl ?_
  exact q_dr (w_X9_kettleByTemperature_b2 hX hT   _  _ _  h) ⟨Or.inl rfl, Or.inl rfl, Or.inl rfl, Or.inl rfl, Or.inl rfl, Or.inl rfl, Or.inl rfl, trivial⟩
set_option maxRecDepth 100000 in
set_option maxHeartbeats 4000000 in
theorem w_X9_waitingCount {l : Launch} {D : DT} {L : LT}  {I : IT} {K : Int32 → IT → Prop}  (h : f_X9_waitingCount  I K) : Con2 l D m_X9_waitingCount 2 [.ref 190] 0 0 I L (Pi L K) := by
  refine Con2.of (by decide +kernel) (by simp [Value.category]) (Nat.le_of_ble_eq_true rfl) (fun X hX hT => ?_)
  have hX : OK X D cX9_waitingCount "TeaHouseModel" 1 := hX
  have hT : RT X l D (some .int) (P2 (Pi L K)) 2 0 0 := hT
  have hR := hT.room
  change J2 X D 1 0 0 I L 0 [.ref 190] []
  rw [f_X9_waitingCount] at h
  refine q_aload_n hX dX9_waitingCount_0 rfl ?_
  refine q_iconst hX dX9_waitingCount_1 (v := (nI 2)) (by decide) ?_
  refine q_V_i hX hR (w_X9_told  h) lk_X9_146 (rc2_of (ci := 10) rfl rfl) dX9_waitingCount_2 rfl rfl (Nat.le_of_ble_eq_true rfl) (by omega) (by omega) (by omega) ?_
  intro x1 I2 h
  exact q_iret hX hT dX9_waitingCount_5 h
set_option maxRecDepth 100000 in
set_option maxHeartbeats 4000000 in
theorem w_X9_orderAt_b16 {X : XT} {D : DT} {l : Launch} {L : LT} {a1 : Int32} {K : Int32 → IT → Prop} (hX : OK X D cX9_orderAt "TeaHouseModel" 3) (hT : RT X l D (some .int) (P2 (Pi L K)) 5 0 0)   : ∀ (v2 : Int32) (s1 : Int32) (I : IT), isZ s1 → isC s1 → f_X9_orderAt_b16 a1 K v2 s1 I → J2 X D 3 0 0 I L 16 [.ref 190, .retAddr 0, .int v2] [.int s1, .ref 190] := by
  have hR := hT.room
  intro v2 s1 I hzs1 hcs1 h
  rw [f_X9_orderAt_b16] at h
  refine q_V_z hX hR (w_X9_isFine hzs1 h) lk_X9_149 (rc2_of (ci := 10) rfl rfl) dX9_orderAt_16 rfl rfl (Nat.le_of_ble_eq_true rfl) (by omega) (by omega) (by omega) ?_
  intro x1 I2 hrx1 h
  refine q_if_eq hX dX9_orderAt_19 (tgt := 31) (by decide) (fun q3 => ?_) (fun q3 => ?_)
  · replace h := ite_t q3 h
    refine q_iconst hX dX9_orderAt_31 (v := (nI 0)) (by decide) ?_
    exact q_iret hX hT dX9_orderAt_32 h
  · replace h := ite_f q3 h
    refine q_aload_n hX dX9_orderAt_22 rfl ?_
    refine q_iload_n hX dX9_orderAt_23 rfl ?_
    refine q_iconst hX dX9_orderAt_24 (v := (nI 0)) (by decide) ?_
    refine q_V_ip hX hR (w_X9_o  h) lk_X9_48 (rc2_of (ci := 10) rfl rfl) dX9_orderAt_25 rfl rfl (Nat.le_of_ble_eq_true rfl) (by omega) (by omega) (by omega) ?_
    intro x4 h
    refine q_goto hX dX9_orderAt_28 (tgt := 32) (by decide) ?_
    exact q_iret hX hT dX9_orderAt_32 h
set_option maxRecDepth 100000 in
set_option maxHeartbeats 4000000 in
theorem w_X9_orderAt {l : Launch} {D : DT} {L : LT} {a1 : Int32} {I : IT} {K : Int32 → IT → Prop}  (h : f_X9_orderAt a1 I K) : Con2 l D m_X9_orderAt 5 [.ref 190, .int a1] 0 0 I L (Pi L K) := by
  refine Con2.of (by decide +kernel) (by simp [Value.category]) (Nat.le_of_ble_eq_true rfl) (fun X hX hT => ?_)
  have hX : OK X D cX9_orderAt "TeaHouseModel" 3 := hX
  have hT : RT X l D (some .int) (P2 (Pi L K)) 5 0 0 := hT
  have hR := hT.room
  change J2 X D 3 0 0 I L 0 [.ref 190, .int a1, .retAddr 0] []
  rw [f_X9_orderAt] at h
  refine q_aload_n hX dX9_orderAt_0 rfl ?_
  refine q_iload_n hX dX9_orderAt_1 rfl ?_
  refine q_V_ip hX hR (w_X9_ranked  h) lk_X9_105 (rc2_of (ci := 10) rfl rfl) dX9_orderAt_2 rfl rfl (Nat.le_of_ble_eq_true rfl) (by omega) (by omega) (by omega) ?_
  intro x1 h
  refine q_istore_n hX dX9_orderAt_5 (by decide) (ls' := [_, _, _]) rfl ?_
  refine q_aload_n hX dX9_orderAt_6 rfl ?_
  refine q_iload_n hX dX9_orderAt_7 rfl ?_
  refine q_if_lt hX dX9_orderAt_8 (tgt := 15) (by decide) (fun q2 => ?_) (fun q2 => ?_)
  · replace h := ite_t q2 h
    refine q_iconst hX dX9_orderAt_15 (v := (nI 0)) (by decide) ?_
    exact q_dr (w_X9_orderAt_b16 hX hT    _ _ _ (Or.inl rfl) (isC_n (by decide)) h) ⟨Or.inl rfl, Or.inr rfl, Or.inl rfl, trivial⟩
  · replace h := ite_f q2 h
    refine q_iconst hX dX9_orderAt_11 (v := (nI 1)) (by decide) ?_
    refine q_goto hX dX9_orderAt_12 (tgt := 16) (by decide) ?_
    exact q_dr (w_X9_orderAt_b16 hX hT    _ _ _ (Or.inr rfl) (isC_n (by decide)) h) ⟨Or.inl rfl, Or.inr rfl, Or.inl rfl, trivial⟩
set_option maxRecDepth 100000 in
set_option maxHeartbeats 4000000 in
theorem w_X9_positionOf_b16 {X : XT} {D : DT} {l : Launch} {L : LT} {a1 : Int32} {K : Int32 → IT → Prop} (hX : OK X D cX9_positionOf "TeaHouseModel" 3) (hT : RT X l D (some .int) (P2 (Pi L K)) 4 0 0)   : ∀ (v2 : Int32) (s1 : Int32) (I : IT), isZ s1 → isC s1 → f_X9_positionOf_b16 a1 K v2 s1 I → J2 X D 3 0 0 I L 16 [.ref 190, .retAddr 0, .int v2] [.int s1, .ref 190] := by
  have hR := hT.room
  intro v2 s1 I hzs1 hcs1 h
  rw [f_X9_positionOf_b16] at h
  refine q_V_z hX hR (w_X9_isFine hzs1 h) lk_X9_149 (rc2_of (ci := 10) rfl rfl) dX9_positionOf_16 rfl rfl (Nat.le_of_ble_eq_true rfl) (by omega) (by omega) (by omega) ?_
  intro x1 I2 hrx1 h
  refine q_if_eq hX dX9_positionOf_19 (tgt := 30) (by decide) (fun q3 => ?_) (fun q3 => ?_)
  · replace h := ite_t q3 h
    refine q_iconst hX dX9_positionOf_30 (v := (nI 0)) (by decide) ?_
    exact q_iret hX hT dX9_positionOf_31 h
  · replace h := ite_f q3 h
    refine q_aload_n hX dX9_positionOf_22 rfl ?_
    refine q_iload_n hX dX9_positionOf_23 rfl ?_
    refine q_V_ip hX hR (w_X9_rankOf  h) lk_X9_56 (rc2_of (ci := 10) rfl rfl) dX9_positionOf_24 rfl rfl (Nat.le_of_ble_eq_true rfl) (by omega) (by omega) (by omega) ?_
    intro x4 h
    refine q_goto hX dX9_positionOf_27 (tgt := 31) (by decide) ?_
    exact q_iret hX hT dX9_positionOf_31 h
set_option maxRecDepth 100000 in
set_option maxHeartbeats 4000000 in
theorem w_X9_positionOf {l : Launch} {D : DT} {L : LT} {a1 : Int32} {I : IT} {K : Int32 → IT → Prop}  (h : f_X9_positionOf a1 I K) : Con2 l D m_X9_positionOf 4 [.ref 190, .int a1] 0 0 I L (Pi L K) := by
  refine Con2.of (by decide +kernel) (by simp [Value.category]) (Nat.le_of_ble_eq_true rfl) (fun X hX hT => ?_)
  have hX : OK X D cX9_positionOf "TeaHouseModel" 3 := hX
  have hT : RT X l D (some .int) (P2 (Pi L K)) 4 0 0 := hT
  have hR := hT.room
  change J2 X D 3 0 0 I L 0 [.ref 190, .int a1, .retAddr 0] []
  rw [f_X9_positionOf] at h
  refine q_aload_n hX dX9_positionOf_0 rfl ?_
  refine q_iload_n hX dX9_positionOf_1 rfl ?_
  refine q_V_ip hX hR (w_X9_find  h) lk_X9_95 (rc2_of (ci := 10) rfl rfl) dX9_positionOf_2 rfl rfl (Nat.le_of_ble_eq_true rfl) (by omega) (by omega) (by omega) ?_
  intro x1 h
  refine q_istore_n hX dX9_positionOf_5 (by decide) (ls' := [_, _, _]) rfl ?_
  refine q_aload_n hX dX9_positionOf_6 rfl ?_
  refine q_iload_n hX dX9_positionOf_7 rfl ?_
  refine q_if_lt hX dX9_positionOf_8 (tgt := 15) (by decide) (fun q2 => ?_) (fun q2 => ?_)
  · replace h := ite_t q2 h
    refine q_iconst hX dX9_positionOf_15 (v := (nI 0)) (by decide) ?_
    exact q_dr (w_X9_positionOf_b16 hX hT    _ _ _ (Or.inl rfl) (isC_n (by decide)) h) ⟨Or.inl rfl, Or.inr rfl, Or.inl rfl, trivial⟩
  · replace h := ite_f q2 h
    refine q_iconst hX dX9_positionOf_11 (v := (nI 1)) (by decide) ?_
    refine q_goto hX dX9_positionOf_12 (tgt := 16) (by decide) ?_
    exact q_dr (w_X9_positionOf_b16 hX hT    _ _ _ (Or.inr rfl) (isC_n (by decide)) h) ⟨Or.inl rfl, Or.inr rfl, Or.inl rfl, trivial⟩
set_option maxRecDepth 100000 in
set_option maxHeartbeats 4000000 in
theorem w_X9_ofOrder_b14 {X : XT} {D : DT} {l : Launch} {L : LT} {a1 : Int32} {a2 : Int32} {K : Int32 → IT → Prop} (hX : OK X D cX9_ofOrder "TeaHouseModel" 3) (hT : RT X l D (some .int) (P2 (Pi L K)) 3 0 0)   : ∀ (s1 : Int32) (I : IT), isZ s1 → isC s1 → f_X9_ofOrder_b14 a1 a2 K s1 I → J2 X D 3 0 0 I L 14 [.ref 190, .int a1, .int a2] [.int s1, .ref 190] := by
  have hR := hT.room
  intro s1 I hzs1 hcs1 h
  rw [f_X9_ofOrder_b14] at h
  refine q_V_z hX hR (w_X9_isFine hzs1 h) lk_X9_149 (rc2_of (ci := 10) rfl rfl) dX9_ofOrder_14 rfl rfl (Nat.le_of_ble_eq_true rfl) (by omega) (by omega) (by omega) ?_
  intro x1 I2 hrx1 h
  refine q_if_eq hX dX9_ofOrder_17 (tgt := 33) (by decide) (fun q3 => ?_) (fun q3 => ?_)
  · replace h := ite_t q3 h
    refine q_iconst hX dX9_ofOrder_33 (v := (nI 0)) (by decide) ?_
    exact q_iret hX hT dX9_ofOrder_34 h
  · replace h := ite_f q3 h
    refine q_aload_n hX dX9_ofOrder_20 rfl ?_
    refine q_aload_n hX dX9_ofOrder_21 rfl ?_
    refine q_iload_n hX dX9_ofOrder_22 rfl ?_
    refine q_V_ip hX hR (w_X9_find  h) lk_X9_95 (rc2_of (ci := 10) rfl rfl) dX9_ofOrder_23 rfl rfl (Nat.le_of_ble_eq_true rfl) (by omega) (by omega) (by omega) ?_
    intro x4 h
    refine q_iload_n hX dX9_ofOrder_26 rfl ?_
    refine q_V_ip hX hR (w_X9_o  h) lk_X9_48 (rc2_of (ci := 10) rfl rfl) dX9_ofOrder_27 rfl rfl (Nat.le_of_ble_eq_true rfl) (by omega) (by omega) (by omega) ?_
    intro x5 h
    refine q_goto hX dX9_ofOrder_30 (tgt := 34) (by decide) ?_
    exact q_iret hX hT dX9_ofOrder_34 h
set_option maxRecDepth 100000 in
set_option maxHeartbeats 4000000 in
theorem w_X9_ofOrder {l : Launch} {D : DT} {L : LT} {a1 : Int32} {a2 : Int32} {I : IT} {K : Int32 → IT → Prop}  (h : f_X9_ofOrder a1 a2 I K) : Con2 l D m_X9_ofOrder 3 [.ref 190, .int a1, .int a2] 0 0 I L (Pi L K) := by
  refine Con2.of (by decide +kernel) (by simp [Value.category]) (Nat.le_of_ble_eq_true rfl) (fun X hX hT => ?_)
  have hX : OK X D cX9_ofOrder "TeaHouseModel" 3 := hX
  have hT : RT X l D (some .int) (P2 (Pi L K)) 3 0 0 := hT
  have hR := hT.room
  change J2 X D 3 0 0 I L 0 [.ref 190, .int a1, .int a2] []
  rw [f_X9_ofOrder] at h
  refine q_aload_n hX dX9_ofOrder_0 rfl ?_
  refine q_aload_n hX dX9_ofOrder_1 rfl ?_
  refine q_iload_n hX dX9_ofOrder_2 rfl ?_
  refine q_V_ip hX hR (w_X9_find  h) lk_X9_95 (rc2_of (ci := 10) rfl rfl) dX9_ofOrder_3 rfl rfl (Nat.le_of_ble_eq_true rfl) (by omega) (by omega) (by omega) ?_
  intro x1 h
  refine q_if_lt hX dX9_ofOrder_6 (tgt := 13) (by decide) (fun q2 => ?_) (fun q2 => ?_)
  · replace h := ite_t q2 h
    refine q_iconst hX dX9_ofOrder_13 (v := (nI 0)) (by decide) ?_
    exact q_dr (w_X9_ofOrder_b14 hX hT    _ _ (Or.inl rfl) (isC_n (by decide)) h) ⟨Or.inl rfl, Or.inl rfl, Or.inl rfl, trivial⟩
  · replace h := ite_f q2 h
    refine q_iconst hX dX9_ofOrder_9 (v := (nI 1)) (by decide) ?_
    refine q_goto hX dX9_ofOrder_10 (tgt := 14) (by decide) ?_
    exact q_dr (w_X9_ofOrder_b14 hX hT    _ _ (Or.inr rfl) (isC_n (by decide)) h) ⟨Or.inl rfl, Or.inl rfl, Or.inl rfl, trivial⟩
set_option maxRecDepth 100000 in
set_option maxHeartbeats 4000000 in
theorem w_X9_cupsOf {l : Launch} {D : DT} {L : LT} {a1 : Int32} {I : IT} {K : Int32 → IT → Prop}  (h : f_X9_cupsOf a1 I K) : Con2 l D m_X9_cupsOf 4 [.ref 190, .int a1] 0 0 I L (Pi L K) := by
  refine Con2.of (by decide +kernel) (by simp [Value.category]) (Nat.le_of_ble_eq_true rfl) (fun X hX hT => ?_)
  have hX : OK X D cX9_cupsOf "TeaHouseModel" 2 := hX
  have hT : RT X l D (some .int) (P2 (Pi L K)) 4 0 0 := hT
  have hR := hT.room
  change J2 X D 2 0 0 I L 0 [.ref 190, .int a1] []
  rw [f_X9_cupsOf] at h
  refine q_aload_n hX dX9_cupsOf_0 rfl ?_
  refine q_iload_n hX dX9_cupsOf_1 rfl ?_
  refine q_iconst hX dX9_cupsOf_2 (v := (nI 2)) (by decide) ?_
  refine q_V_i hX hR (w_X9_ofOrder  h) lk_X9_165 (rc2_of (ci := 10) rfl rfl) dX9_cupsOf_3 rfl rfl (Nat.le_of_ble_eq_true rfl) (by omega) (by omega) (by omega) ?_
  intro x1 I2 h
  exact q_iret hX hT dX9_cupsOf_6 h
set_option maxRecDepth 100000 in
set_option maxHeartbeats 4000000 in
theorem w_X9_priceOf {l : Launch} {D : DT} {L : LT} {a1 : Int32} {I : IT} {K : UInt32 → IT → Prop}  (h : f_X9_priceOf a1 I K) : Con2 l D m_X9_priceOf 4 [.ref 190, .int a1] 0 0 I L (Pf L K) := by
  refine Con2.of (by decide +kernel) (by simp [Value.category]) (Nat.le_of_ble_eq_true rfl) (fun X hX hT => ?_)
  have hX : OK X D cX9_priceOf "TeaHouseModel" 2 := hX
  have hT : RT X l D (some .float) (P2 (Pf L K)) 4 0 0 := hT
  have hR := hT.room
  change J2 X D 2 0 0 I L 0 [.ref 190, .int a1] []
  rw [f_X9_priceOf] at h
  refine q_aload_n hX dX9_priceOf_0 rfl ?_
  refine q_iload_n hX dX9_priceOf_1 rfl ?_
  refine q_iconst hX dX9_priceOf_2 (v := (nI 2)) (by decide) ?_
  refine q_V_i hX hR (w_X9_ofOrder  h) lk_X9_165 (rc2_of (ci := 10) rfl rfl) dX9_priceOf_3 rfl rfl (Nat.le_of_ble_eq_true rfl) (by omega) (by omega) (by omega) ?_
  intro x1 I2 h
  refine q_aload_n hX dX9_priceOf_6 rfl ?_
  refine q_getR hX gf_X9_9 rfl dX9_priceOf_7 (at_of (n := 0) rfl) (b := 191) rfl ?_
  refine q_bipush hX dX9_priceOf_10 (v := (nI 9)) (by decide) ?_
  refine q_iald hX dX9_priceOf_12 (at_of (a := 191) (t := 22) (n := 1236) rfl) (j := 9) rfl (by decide) (by decide) ?_
  refine q_imul hX dX9_priceOf_13 ?_
  refine q_S_fp hX hR (w_X9_eighths  h) lk_X9_128 dX9_priceOf_14 rfl rfl (Nat.le_of_ble_eq_true rfl) (by omega) (by omega) (by omega) ?_
  intro x3 h
  exact q_fret hX hT dX9_priceOf_17 h
set_option maxRecDepth 100000 in
set_option maxHeartbeats 4000000 in
theorem w_X9_kettleFor_b30 {X : XT} {D : DT} {l : Launch} {L : LT} {a1 : Int32} {K : Int32 → IT → Prop} (hX : OK X D cX9_kettleFor "TeaHouseModel" 4) (hT : RT X l D (some .int) (P2 (Pi L K)) 3 0 0)   : ∀ (v3 : Int32) (s1 : Int32) (I : IT), isZ s1 → isC s1 → f_X9_kettleFor_b30 a1 K v3 s1 I → J2 X D 4 0 0 I L 30 [.retAddr 0, .retAddr 0, .retAddr 0, .int v3] [.int s1, .ref 190] := by
  have hR := hT.room
  intro v3 s1 I hzs1 hcs1 h
  rw [f_X9_kettleFor_b30] at h
  refine q_V_z hX hR (w_X9_isFine hzs1 h) lk_X9_149 (rc2_of (ci := 10) rfl rfl) dX9_kettleFor_30 rfl rfl (Nat.le_of_ble_eq_true rfl) (by omega) (by omega) (by omega) ?_
  intro x1 I2 hrx1 h
  refine q_if_eq hX dX9_kettleFor_33 (tgt := 40) (by decide) (fun q3 => ?_) (fun q3 => ?_)
  · replace h := ite_t q3 h
    refine q_iconst hX dX9_kettleFor_40 (v := (nI 0)) (by decide) ?_
    exact q_iret hX hT dX9_kettleFor_41 h
  · replace h := ite_f q3 h
    refine q_iload_n hX dX9_kettleFor_36 rfl ?_
    refine q_goto hX dX9_kettleFor_37 (tgt := 41) (by decide) ?_
    exact q_iret hX hT dX9_kettleFor_41 h
set_option maxRecDepth 100000 in
set_option maxHeartbeats 4000000 in
theorem w_X9_kettleFor_b19 {X : XT} {D : DT} {l : Launch} {L : LT} {a1 : Int32} {K : Int32 → IT → Prop} (hX : OK X D cX9_kettleFor "TeaHouseModel" 4) (hT : RT X l D (some .int) (P2 (Pi L K)) 3 0 0)   : ∀ (s0 : Int32) (I : IT), f_X9_kettleFor_b19 a1 K s0 I → J2 X D 4 0 0 I L 19 [.ref 190, .retAddr 0, .retAddr 0, .retAddr 0] [.int s0] := by
  have hR := hT.room
  intro s0 I h
  rw [f_X9_kettleFor_b19] at h
  refine q_istore_n hX dX9_kettleFor_19 (by decide) (ls' := [_, _, _, _]) rfl ?_
  refine q_aload_n hX dX9_kettleFor_20 rfl ?_
  refine q_iload_n hX dX9_kettleFor_21 rfl ?_
  refine q_if_lt hX dX9_kettleFor_22 (tgt := 29) (by decide) (fun q1 => ?_) (fun q1 => ?_)
  · replace h := ite_t q1 h
    refine q_iconst hX dX9_kettleFor_29 (v := (nI 0)) (by decide) ?_
    exact q_dr (w_X9_kettleFor_b30 hX hT    _ _ _ (Or.inl rfl) (isC_n (by decide)) h) ⟨Or.inr rfl, Or.inl rfl, Or.inl rfl, Or.inl rfl, trivial⟩
  · replace h := ite_f q1 h
    refine q_iconst hX dX9_kettleFor_25 (v := (nI 1)) (by decide) ?_
    refine q_goto hX dX9_kettleFor_26 (tgt := 30) (by decide) ?_
    exact q_dr (w_X9_kettleFor_b30 hX hT    _ _ _ (Or.inr rfl) (isC_n (by decide)) h) ⟨Or.inr rfl, Or.inl rfl, Or.inl rfl, Or.inl rfl, trivial⟩
set_option maxRecDepth 100000 in
set_option maxHeartbeats 4000000 in
theorem w_X9_kettleFor {l : Launch} {D : DT} {L : LT} {a1 : Int32} {I : IT} {K : Int32 → IT → Prop}  (h : f_X9_kettleFor a1 I K) : Con2 l D m_X9_kettleFor 3 [.ref 190, .int a1] 0 0 I L (Pi L K) := by
  refine Con2.of (by decide +kernel) (by simp [Value.category]) (Nat.le_of_ble_eq_true rfl) (fun X hX hT => ?_)
  have hX : OK X D cX9_kettleFor "TeaHouseModel" 4 := hX
  have hT : RT X l D (some .int) (P2 (Pi L K)) 3 0 0 := hT
  have hR := hT.room
  change J2 X D 4 0 0 I L 0 [.ref 190, .int a1, .retAddr 0, .retAddr 0] []
  rw [f_X9_kettleFor] at h
  refine q_aload_n hX dX9_kettleFor_0 rfl ?_
  refine q_iload_n hX dX9_kettleFor_1 rfl ?_
  refine q_V_ip hX hR (w_X9_find  h) lk_X9_95 (rc2_of (ci := 10) rfl rfl) dX9_kettleFor_2 rfl rfl (Nat.le_of_ble_eq_true rfl) (by omega) (by omega) (by omega) ?_
  intro x1 h
  refine q_istore_n hX dX9_kettleFor_5 (by decide) (ls' := [_, _, _, _]) rfl ?_
  refine q_iload_n hX dX9_kettleFor_6 rfl ?_
  refine q_if_ge hX dX9_kettleFor_7 (tgt := 14) (by decide) (fun q2 => ?_) (fun q2 => ?_)
  · replace h := ite_t q2 h
    refine q_aload_n hX dX9_kettleFor_14 rfl ?_
    refine q_iload_n hX dX9_kettleFor_15 rfl ?_
    refine q_V_ip hX hR (w_X9_pourer  h) lk_X9_108 (rc2_of (ci := 10) rfl rfl) dX9_kettleFor_16 rfl rfl (Nat.le_of_ble_eq_true rfl) (by omega) (by omega) (by omega) ?_
    intro x3 h
    exact q_dr (w_X9_kettleFor_b19 hX hT    _ _  h) ⟨Or.inl rfl, Or.inr rfl, Or.inr rfl, Or.inl rfl, trivial⟩
  · replace h := ite_f q2 h
    refine q_iconst hX dX9_kettleFor_10 (v := (-1)) (by decide) ?_
    refine q_goto hX dX9_kettleFor_11 (tgt := 19) (by decide) ?_
    exact q_dr (w_X9_kettleFor_b19 hX hT    _ _  h) ⟨Or.inl rfl, Or.inr rfl, Or.inr rfl, Or.inl rfl, trivial⟩
