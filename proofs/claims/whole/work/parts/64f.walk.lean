set_option maxRecDepth 100000 in
set_option maxHeartbeats 4000000 in
theorem w_X9_does_b226 {X : XT} {D : DT} {l : Launch} {L : LT} {a1 : Int32} {K : Int32 → IT → Prop} (hX : OK X D cX9_does "TeaHouseModel" 4) (hT : RT X l D (some .int) (P2 (Pi L K)) 7 0 0)   : ∀ (I : IT), f_X9_does_b226 a1 K I → J2 X D 4 0 0 I L 226 [.ref 190, .retAddr 0, .retAddr 0, .retAddr 0] [] := by
  have hR := hT.room
  intro I h
  rw [f_X9_does_b226] at h
  refine q_aload_n hX dX9_does_226 rfl ?_
  refine q_V_i hX hR (w_X9_closes  h) lk_X9_143 (rc2_of (ci := 10) rfl rfl) dX9_does_227 rfl rfl (Nat.le_of_ble_eq_true rfl) (by omega) (by omega) (by omega) ?_
  intro x1 I2 h
  exact q_iret hX hT dX9_does_230 h
set_option maxRecDepth 100000 in
set_option maxHeartbeats 4000000 in
theorem w_X9_does {l : Launch} {D : DT} {L : LT} {a1 : Int32} {I : IT} {K : Int32 → IT → Prop}  (h : f_X9_does a1 I K) : Con2 l D m_X9_does 7 [.ref 190, .int a1] 0 0 I L (Pi L K) := by
  refine Con2.of (by decide +kernel) (by simp [Value.category]) (Nat.le_of_ble_eq_true rfl) (fun X hX hT => ?_)
  have hX : OK X D cX9_does "TeaHouseModel" 4 := hX
  have hT : RT X l D (some .int) (P2 (Pi L K)) 7 0 0 := hT
  have hR := hT.room
  change J2 X D 4 0 0 I L 0 [.ref 190, .int a1, .retAddr 0, .retAddr 0] []
  rw [f_X9_does] at h
  refine q_aload_n hX dX9_does_0 rfl ?_
  refine q_getR hX gf_X9_27 rfl dX9_does_1 (at_of (n := 0) rfl) (b := 194) rfl ?_
  refine q_iload_n hX dX9_does_4 rfl ?_
  refine q_iconst hX dX9_does_5 (v := (nI 1)) (by decide) ?_
  refine q_iadd hX dX9_does_6 ?_
  obtain ⟨z1, h⟩ := h
  refine q_iald hX dX9_does_7 (at_of (a := 194) (t := 22) (n := 305) rfl) (inr_e z1) (inr_lt z1) (by decide) ?_
  replace h := bnd_e h
  refine q_istore_n hX dX9_does_8 (by decide) (ls' := [_, _, _, _]) rfl ?_
  refine q_aload_n hX dX9_does_9 rfl ?_
  refine q_getR hX gf_X9_27 rfl dX9_does_10 (at_of (n := 0) rfl) (b := 194) rfl ?_
  refine q_iload_n hX dX9_does_13 rfl ?_
  refine q_iconst hX dX9_does_14 (v := (nI 2)) (by decide) ?_
  refine q_iadd hX dX9_does_15 ?_
  obtain ⟨z3, h⟩ := h
  refine q_iald hX dX9_does_16 (at_of (a := 194) (t := 22) (n := 305) rfl) (inr_e z3) (inr_lt z3) (by decide) ?_
  replace h := bnd_e h
  refine q_istore_n hX dX9_does_17 (by decide) (ls' := [_, _, _, _]) rfl ?_
  refine q_aload_n hX dX9_does_18 rfl ?_
  refine q_getR hX gf_X9_27 rfl dX9_does_19 (at_of (n := 0) rfl) (b := 194) rfl ?_
  refine q_iload_n hX dX9_does_22 rfl ?_
  obtain ⟨z5, h⟩ := h
  refine q_iald hX dX9_does_23 (at_of (a := 194) (t := 22) (n := 305) rfl) (inr_e z5) (inr_lt z5) (by decide) ?_
  refine q_cas (k := (nI 97)) (fun q32 => ?_) (fun q32 => ?_)
  · replace h := ite_t q32 h
    refine q_tableInE hX dX9_does_24 q32 (by decide +kernel) (by decide +kernel) (off := 196) (by decide +kernel) (tgt := 220) (by decide) ?_
    refine q_aload_n hX dX9_does_220 rfl ?_
    refine q_iload_n hX dX9_does_221 rfl ?_
    refine q_V_i hX hR (w_X9_attends  h) lk_X9_134 (rc2_of (ci := 10) rfl rfl) dX9_does_222 rfl rfl (Nat.le_of_ble_eq_true rfl) (by omega) (by omega) (by omega) ?_
    intro x6 I7 h
    exact q_iret hX hT dX9_does_225 h
  replace h := ite_f q32 h
  refine q_cas (k := (nI 98)) (fun q33 => ?_) (fun q33 => ?_)
  · replace h := ite_t q33 h
    refine q_tableInE hX dX9_does_24 q33 (by decide +kernel) (by decide +kernel) (off := 121) (by decide +kernel) (tgt := 145) (by decide) ?_
    refine q_aload_n hX dX9_does_145 rfl ?_
    refine q_iload_n hX dX9_does_146 rfl ?_
    refine q_iload_n hX dX9_does_147 rfl ?_
    refine q_V_i hX hR (w_X9_turns  h) lk_X9_88 (rc2_of (ci := 10) rfl rfl) dX9_does_148 rfl rfl (Nat.le_of_ble_eq_true rfl) (by omega) (by omega) (by omega) ?_
    intro x8 I9 h
    exact q_iret hX hT dX9_does_151 h
  replace h := ite_f q33 h
  refine q_cas (k := (nI 99)) (fun q34 => ?_) (fun q34 => ?_)
  · replace h := ite_t q34 h
    refine q_tableInE hX dX9_does_24 q34 (by decide +kernel) (by decide +kernel) (off := 151) (by decide +kernel) (tgt := 175) (by decide) ?_
    refine q_aload_n hX dX9_does_175 rfl ?_
    refine q_iload_n hX dX9_does_176 rfl ?_
    refine q_V_i hX hR (w_X9_cancels  h) lk_X9_102 (rc2_of (ci := 10) rfl rfl) dX9_does_177 rfl rfl (Nat.le_of_ble_eq_true rfl) (by omega) (by omega) (by omega) ?_
    intro x10 I11 h
    exact q_iret hX hT dX9_does_180 h
  replace h := ite_f q34 h
  refine q_cas (k := (nI 100)) (fun q35 => ?_) (fun q35 => ?_)
  · replace h := ite_t q35 h
    refine q_tableInE hX dX9_does_24 q35 (by decide +kernel) (by decide +kernel) (off := 202) (by decide +kernel) (tgt := 226) (by decide) ?_
    exact q_dr (w_X9_does_b226 hX hT    _  h) ⟨Or.inl rfl, Or.inr rfl, Or.inr rfl, Or.inr rfl, trivial⟩
  replace h := ite_f q35 h
  refine q_cas (k := (nI 101)) (fun q36 => ?_) (fun q36 => ?_)
  · replace h := ite_t q36 h
    refine q_tableInE hX dX9_does_24 q36 (by decide +kernel) (by decide +kernel) (off := 202) (by decide +kernel) (tgt := 226) (by decide) ?_
    exact q_dr (w_X9_does_b226 hX hT    _  h) ⟨Or.inl rfl, Or.inr rfl, Or.inr rfl, Or.inr rfl, trivial⟩
  replace h := ite_f q36 h
  refine q_cas (k := (nI 102)) (fun q37 => ?_) (fun q37 => ?_)
  · replace h := ite_t q37 h
    refine q_tableInE hX dX9_does_24 q37 (by decide +kernel) (by decide +kernel) (off := 114) (by decide +kernel) (tgt := 138) (by decide) ?_
    refine q_aload_n hX dX9_does_138 rfl ?_
    refine q_iload_n hX dX9_does_139 rfl ?_
    refine q_iload_n hX dX9_does_140 rfl ?_
    refine q_V_i hX hR (w_X9_fills  h) lk_X9_81 (rc2_of (ci := 10) rfl rfl) dX9_does_141 rfl rfl (Nat.le_of_ble_eq_true rfl) (by omega) (by omega) (by omega) ?_
    intro x12 I13 h
    exact q_iret hX hT dX9_does_144 h
  replace h := ite_f q37 h
  refine q_cas (k := (nI 103)) (fun q38 => ?_) (fun q38 => ?_)
  · replace h := ite_t q38 h
    refine q_tableInE hX dX9_does_24 q38 (by decide +kernel) (by decide +kernel) (off := 202) (by decide +kernel) (tgt := 226) (by decide) ?_
    exact q_dr (w_X9_does_b226 hX hT    _  h) ⟨Or.inl rfl, Or.inr rfl, Or.inr rfl, Or.inr rfl, trivial⟩
  replace h := ite_f q38 h
  refine q_cas (k := (nI 104)) (fun q39 => ?_) (fun q39 => ?_)
  · replace h := ite_t q39 h
    refine q_tableInE hX dX9_does_24 q39 (by decide +kernel) (by decide +kernel) (off := 202) (by decide +kernel) (tgt := 226) (by decide) ?_
    exact q_dr (w_X9_does_b226 hX hT    _  h) ⟨Or.inl rfl, Or.inr rfl, Or.inr rfl, Or.inr rfl, trivial⟩
  replace h := ite_f q39 h
  refine q_cas (k := (nI 105)) (fun q40 => ?_) (fun q40 => ?_)
  · replace h := ite_t q40 h
    refine q_tableInE hX dX9_does_24 q40 (by decide +kernel) (by decide +kernel) (off := 202) (by decide +kernel) (tgt := 226) (by decide) ?_
    exact q_dr (w_X9_does_b226 hX hT    _  h) ⟨Or.inl rfl, Or.inr rfl, Or.inr rfl, Or.inr rfl, trivial⟩
  replace h := ite_f q40 h
  refine q_cas (k := (nI 106)) (fun q41 => ?_) (fun q41 => ?_)
  · replace h := ite_t q41 h
    refine q_tableInE hX dX9_does_24 q41 (by decide +kernel) (by decide +kernel) (off := 202) (by decide +kernel) (tgt := 226) (by decide) ?_
    exact q_dr (w_X9_does_b226 hX hT    _  h) ⟨Or.inl rfl, Or.inr rfl, Or.inr rfl, Or.inr rfl, trivial⟩
  replace h := ite_f q41 h
  refine q_cas (k := (nI 107)) (fun q42 => ?_) (fun q42 => ?_)
  · replace h := ite_t q42 h
    refine q_tableInE hX dX9_does_24 q42 (by decide +kernel) (by decide +kernel) (off := 108) (by decide +kernel) (tgt := 132) (by decide) ?_
    refine q_aload_n hX dX9_does_132 rfl ?_
    refine q_iload_n hX dX9_does_133 rfl ?_
    refine q_V_i hX hR (w_X9_adds  h) lk_X9_70 (rc2_of (ci := 10) rfl rfl) dX9_does_134 rfl rfl (Nat.le_of_ble_eq_true rfl) (by omega) (by omega) (by omega) ?_
    intro x14 I15 h
    exact q_iret hX hT dX9_does_137 h
  replace h := ite_f q42 h
  refine q_cas (k := (nI 108)) (fun q43 => ?_) (fun q43 => ?_)
  · replace h := ite_t q43 h
    refine q_tableInE hX dX9_does_24 q43 (by decide +kernel) (by decide +kernel) (off := 188) (by decide +kernel) (tgt := 212) (by decide) ?_
    refine q_aload_n hX dX9_does_212 rfl ?_
    refine q_bipush hX dX9_does_213 (v := (nI 10)) (by decide) ?_
    refine q_iload_n hX dX9_does_215 rfl ?_
    refine q_V_i hX hR (w_X9_prices  h) lk_X9_131 (rc2_of (ci := 10) rfl rfl) dX9_does_216 rfl rfl (Nat.le_of_ble_eq_true rfl) (by omega) (by omega) (by omega) ?_
    intro x16 I17 h
    exact q_iret hX hT dX9_does_219 h
  replace h := ite_f q43 h
  refine q_cas (k := (nI 109)) (fun q44 => ?_) (fun q44 => ?_)
  · replace h := ite_t q44 h
    refine q_tableInE hX dX9_does_24 q44 (by decide +kernel) (by decide +kernel) (off := 174) (by decide +kernel) (tgt := 198) (by decide) ?_
    refine q_aload_n hX dX9_does_198 rfl ?_
    refine q_iload_n hX dX9_does_199 rfl ?_
    refine q_V_i hX hR (w_X9_passes  h) lk_X9_140 (rc2_of (ci := 10) rfl rfl) dX9_does_200 rfl rfl (Nat.le_of_ble_eq_true rfl) (by omega) (by omega) (by omega) ?_
    intro x18 I19 h
    exact q_iret hX hT dX9_does_203 h
  replace h := ite_f q44 h
  refine q_cas (k := (nI 110)) (fun q45 => ?_) (fun q45 => ?_)
  · replace h := ite_t q45 h
    refine q_tableInE hX dX9_does_24 q45 (by decide +kernel) (by decide +kernel) (off := 202) (by decide +kernel) (tgt := 226) (by decide) ?_
    exact q_dr (w_X9_does_b226 hX hT    _  h) ⟨Or.inl rfl, Or.inr rfl, Or.inr rfl, Or.inr rfl, trivial⟩
  replace h := ite_f q45 h
  refine q_cas (k := (nI 111)) (fun q46 => ?_) (fun q46 => ?_)
  · replace h := ite_t q46 h
    refine q_tableInE hX dX9_does_24 q46 (by decide +kernel) (by decide +kernel) (off := 128) (by decide +kernel) (tgt := 152) (by decide) ?_
    refine q_aload_n hX dX9_does_152 rfl ?_
    refine q_iload_n hX dX9_does_153 rfl ?_
    refine q_iload_n hX dX9_does_154 rfl ?_
    refine q_aload_n hX dX9_does_155 rfl ?_
    refine q_getR hX gf_X9_27 rfl dX9_does_156 (at_of (n := 0) rfl) (b := 194) rfl ?_
    refine q_iload_n hX dX9_does_159 rfl ?_
    refine q_iconst hX dX9_does_160 (v := (nI 3)) (by decide) ?_
    refine q_iadd hX dX9_does_161 ?_
    obtain ⟨z20, h⟩ := h
    refine q_iald hX dX9_does_162 (at_of (a := 194) (t := 22) (n := 305) rfl) (inr_e z20) (inr_lt z20) (by decide) ?_
    refine q_aload_n hX dX9_does_163 rfl ?_
    refine q_getR hX gf_X9_27 rfl dX9_does_164 (at_of (n := 0) rfl) (b := 194) rfl ?_
    refine q_iload_n hX dX9_does_167 rfl ?_
    refine q_iconst hX dX9_does_168 (v := (nI 4)) (by decide) ?_
    refine q_iadd hX dX9_does_169 ?_
    obtain ⟨z21, h⟩ := h
    refine q_iald hX dX9_does_170 (at_of (a := 194) (t := 22) (n := 305) rfl) (inr_e z21) (inr_lt z21) (by decide) ?_
    refine q_V_i hX hR (w_X9_accepts  h) lk_X9_91 (rc2_of (ci := 10) rfl rfl) dX9_does_171 rfl rfl (Nat.le_of_ble_eq_true rfl) (by omega) (by omega) (by omega) ?_
    intro x22 I23 h
    exact q_iret hX hT dX9_does_174 h
  replace h := ite_f q46 h
  refine q_cas (k := (nI 112)) (fun q47 => ?_) (fun q47 => ?_)
  · replace h := ite_t q47 h
    refine q_tableInE hX dX9_does_24 q47 (by decide +kernel) (by decide +kernel) (off := 202) (by decide +kernel) (tgt := 226) (by decide) ?_
    exact q_dr (w_X9_does_b226 hX hT    _  h) ⟨Or.inl rfl, Or.inr rfl, Or.inr rfl, Or.inr rfl, trivial⟩
  replace h := ite_f q47 h
  refine q_cas (k := (nI 113)) (fun q48 => ?_) (fun q48 => ?_)
  · replace h := ite_t q48 h
    refine q_tableInE hX dX9_does_24 q48 (by decide +kernel) (by decide +kernel) (off := 202) (by decide +kernel) (tgt := 226) (by decide) ?_
    exact q_dr (w_X9_does_b226 hX hT    _  h) ⟨Or.inl rfl, Or.inr rfl, Or.inr rfl, Or.inr rfl, trivial⟩
  replace h := ite_f q48 h
  refine q_cas (k := (nI 114)) (fun q49 => ?_) (fun q49 => ?_)
  · replace h := ite_t q49 h
    refine q_tableInE hX dX9_does_24 q49 (by decide +kernel) (by decide +kernel) (off := 202) (by decide +kernel) (tgt := 226) (by decide) ?_
    exact q_dr (w_X9_does_b226 hX hT    _  h) ⟨Or.inl rfl, Or.inr rfl, Or.inr rfl, Or.inr rfl, trivial⟩
  replace h := ite_f q49 h
  refine q_cas (k := (nI 115)) (fun q50 => ?_) (fun q50 => ?_)
  · replace h := ite_t q50 h
    refine q_tableInE hX dX9_does_24 q50 (by decide +kernel) (by decide +kernel) (off := 157) (by decide +kernel) (tgt := 181) (by decide) ?_
    refine q_aload_n hX dX9_does_181 rfl ?_
    refine q_V_i hX hR (w_X9_serves  h) lk_X9_118 (rc2_of (ci := 10) rfl rfl) dX9_does_182 rfl rfl (Nat.le_of_ble_eq_true rfl) (by omega) (by omega) (by omega) ?_
    intro x24 I25 h
    exact q_iret hX hT dX9_does_185 h
  replace h := ite_f q50 h
  refine q_cas (k := (nI 116)) (fun q51 => ?_) (fun q51 => ?_)
  · replace h := ite_t q51 h
    refine q_tableInE hX dX9_does_24 q51 (by decide +kernel) (by decide +kernel) (off := 168) (by decide +kernel) (tgt := 192) (by decide) ?_
    refine q_aload_n hX dX9_does_192 rfl ?_
    refine q_iload_n hX dX9_does_193 rfl ?_
    refine q_V_i hX hR (w_X9_sells  h) lk_X9_125 (rc2_of (ci := 10) rfl rfl) dX9_does_194 rfl rfl (Nat.le_of_ble_eq_true rfl) (by omega) (by omega) (by omega) ?_
    intro x26 I27 h
    exact q_iret hX hT dX9_does_197 h
  replace h := ite_f q51 h
  refine q_cas (k := (nI 117)) (fun q52 => ?_) (fun q52 => ?_)
  · replace h := ite_t q52 h
    refine q_tableInE hX dX9_does_24 q52 (by decide +kernel) (by decide +kernel) (off := 180) (by decide +kernel) (tgt := 204) (by decide) ?_
    refine q_aload_n hX dX9_does_204 rfl ?_
    refine q_bipush hX dX9_does_205 (v := (nI 9)) (by decide) ?_
    refine q_iload_n hX dX9_does_207 rfl ?_
    refine q_V_i hX hR (w_X9_prices  h) lk_X9_131 (rc2_of (ci := 10) rfl rfl) dX9_does_208 rfl rfl (Nat.le_of_ble_eq_true rfl) (by omega) (by omega) (by omega) ?_
    intro x28 I29 h
    exact q_iret hX hT dX9_does_211 h
  replace h := ite_f q52 h
  refine q_cas (k := (nI 118)) (fun q53 => ?_) (fun q53 => ?_)
  · replace h := ite_t q53 h
    refine q_tableInE hX dX9_does_24 q53 (by decide +kernel) (by decide +kernel) (off := 202) (by decide +kernel) (tgt := 226) (by decide) ?_
    exact q_dr (w_X9_does_b226 hX hT    _  h) ⟨Or.inl rfl, Or.inr rfl, Or.inr rfl, Or.inr rfl, trivial⟩
  replace h := ite_f q53 h
  refine q_cas (k := (nI 119)) (fun q54 => ?_) (fun q54 => ?_)
  · replace h := ite_t q54 h
    refine q_tableInE hX dX9_does_24 q54 (by decide +kernel) (by decide +kernel) (off := 162) (by decide +kernel) (tgt := 186) (by decide) ?_
    refine q_aload_n hX dX9_does_186 rfl ?_
    refine q_iload_n hX dX9_does_187 rfl ?_
    refine q_V_i hX hR (w_X9_washes  h) lk_X9_122 (rc2_of (ci := 10) rfl rfl) dX9_does_188 rfl rfl (Nat.le_of_ble_eq_true rfl) (by omega) (by omega) (by omega) ?_
    intro x30 I31 h
    exact q_iret hX hT dX9_does_191 h
  replace h := ite_f q54 h
  refine q_tableOut hX dX9_does_24 (by have w0 := swn q32 (by decide); have w1 := swn q33 (by decide); have w2 := swn q34 (by decide); have w3 := swn q35 (by decide); have w4 := swn q36 (by decide); have w5 := swn q37 (by decide); have w6 := swn q38 (by decide); have w7 := swn q39 (by decide); have w8 := swn q40 (by decide); have w9 := swn q41 (by decide); have w10 := swn q42 (by decide); have w11 := swn q43 (by decide); have w12 := swn q44 (by decide); have w13 := swn q45 (by decide); have w14 := swn q46 (by decide); have w15 := swn q47 (by decide); have w16 := swn q48 (by decide); have w17 := swn q49 (by decide); have w18 := swn q50 (by decide); have w19 := swn q51 (by decide); have w20 := swn q52 (by decide); have w21 := swn q53 (by decide); have w22 := swn q54 (by decide); omega) (tgt := 226) (by decide) ?_
  exact q_dr (w_X9_does_b226 hX hT    _  h) ⟨Or.inl rfl, Or.inr rfl, Or.inr rfl, Or.inr rfl, trivial⟩
set_option maxRecDepth 100000 in
set_option maxHeartbeats 4000000 in
theorem w_X9_run_b37 {X : XT} {D : DT} {l : Launch} {L : LT} {K : Int32 → IT → Prop} {X61 : Int32 → IT → Prop} (hX : OK X D cX9_run "TeaHouseModel" 3) (hT : RT X l D (some .int) (P2 (Pi L K)) 8 0 0)  (hx61 : ∀ (v1 : Int32) (I : IT), X61 v1 I → J2 X D 3 0 0 I L 61 [.ref 190, .int v1, .retAddr 0] []) : ∀ (n : Nat), ∀ (v1 : Int32) (I : IT), f_X9_run_b37 X61 K n v1 I → J2 X D 3 0 0 I L 37 [.ref 190, .int v1, .retAddr 0] [] := by
  have hR := hT.room
  intro n
  induction n with
  | zero => intro v1 I h; exact False.elim h
  | succ n ih =>
    intro v1 I h
    rw [f_X9_run_b37] at h
    refine q_iload_n hX dX9_run_37 rfl ?_
    refine q_aload_n hX dX9_run_38 rfl ?_
    refine q_getI hX gf_X9_207 rfl dX9_run_39 (at_of (n := 0) rfl) ?_
    refine q_icmp_ge hX dX9_run_42 (tgt := 61) (by decide) (fun q1 => ?_) (fun q1 => ?_)
    · replace h := ite_t q1 h
      exact q_dr (hx61 _ _  h) ⟨Or.inl rfl, Or.inl rfl, Or.inl rfl, trivial⟩
    · replace h := ite_f q1 h
      refine q_aload_n hX dX9_run_45 rfl ?_
      refine q_iconst hX dX9_run_46 (v := (nI 5)) (by decide) ?_
      refine q_iload_n hX dX9_run_47 rfl ?_
      refine q_imul hX dX9_run_48 ?_
      refine q_V_i hX hR (w_X9_does  h) lk_X9_222 (rc2_of (ci := 10) rfl rfl) dX9_run_49 rfl rfl (Nat.le_of_ble_eq_true rfl) (by omega) (by omega) (by omega) ?_
      intro x2 I3 h
      refine q_if_ne hX dX9_run_52 (tgt := 61) (by decide) (fun q4 => ?_) (fun q4 => ?_)
      · replace h := ite_f q4 h
        exact q_dr (hx61 _ _  h) ⟨Or.inl rfl, Or.inl rfl, Or.inl rfl, trivial⟩
      · replace h := ite_t q4 h
        replace h := bnd_e h
        refine q_iinc hX dX9_run_55 (by decide) rfl (v := _ + nI 1) (ls' := [_, _, _]) rfl rfl ?_
        refine q_goto hX dX9_run_58 (tgt := 37) (by decide) ?_
        exact q_dr (ih _ _  h) ⟨Or.inl rfl, Or.inl rfl, Or.inl rfl, trivial⟩
set_option maxRecDepth 100000 in
set_option maxHeartbeats 4000000 in
theorem w_X9_run_b109 {X : XT} {D : DT} {l : Launch} {L : LT} {K : Int32 → IT → Prop} (hX : OK X D cX9_run "TeaHouseModel" 3) (hT : RT X l D (some .int) (P2 (Pi L K)) 8 0 0)   : ∀ (s1 : Int32) (I : IT), isC s1 → f_X9_run_b109 K s1 I → J2 X D 3 0 0 I L 109 [.retAddr 0, .retAddr 0, .retAddr 0] [.int s1, .ref 190] := by
  have hR := hT.room
  intro s1 I hcs1 h
  rw [f_X9_run_b109] at h
  refine q_iconst hX dX9_run_109 (v := (nI 0)) (by decide) ?_
  refine q_iconst hX dX9_run_110 (v := (nI 0)) (by decide) ?_
  refine q_iconst hX dX9_run_111 (v := (nI 2)) (by decide) ?_
  refine q_iconst hX dX9_run_112 (v := (nI 0)) (by decide) ?_
  refine q_V_i hX hR (w_X9_ends  h) lk_X9_73 (rc2_of (ci := 10) rfl rfl) dX9_run_113 rfl rfl (Nat.le_of_ble_eq_true rfl) (by omega) (by omega) (by omega) ?_
  intro x1 I2 h
  exact q_iret hX hT dX9_run_116 h
set_option maxRecDepth 100000 in
set_option maxHeartbeats 4000000 in
theorem w_X9_run_b88 {X : XT} {D : DT} {l : Launch} {L : LT} {K : Int32 → IT → Prop} (hX : OK X D cX9_run "TeaHouseModel" 3) (hT : RT X l D (some .int) (P2 (Pi L K)) 8 0 0)   : ∀ (v2 : Int32) (s1 : Int32) (I : IT), isZ v2 → isC v2 → f_X9_run_b88 K v2 s1 I → J2 X D 3 0 0 I L 88 [.ref 190, .retAddr 0, .int v2] [.int s1, .ref 190] := by
  have hR := hT.room
  intro v2 s1 I hzv2 hcv2 h
  rw [f_X9_run_b88] at h
  replace h := wr_e h
  refine q_putI hX pf_X9_24 rfl dX9_run_88 (at_of (n := 0) rfl) rfl rfl ?_
  generalize up2 _ _ _ _ = I1 at h ⊢
  refine q_aload_n hX dX9_run_91 rfl ?_
  refine q_aload_n hX dX9_run_92 rfl ?_
  refine q_getI hX gf_X9_207 rfl dX9_run_93 (at_of (n := 0) rfl) ?_
  replace h := wr_e h
  refine q_putI hX pf_X9_40 rfl dX9_run_96 (at_of (n := 0) rfl) rfl rfl ?_
  generalize up2 _ _ _ _ = I2 at h ⊢
  refine q_aload_n hX dX9_run_99 rfl ?_
  refine q_iload_n hX dX9_run_100 rfl ?_
  refine q_if_eq hX dX9_run_101 (tgt := 108) (by decide) (fun q3 => ?_) (fun q3 => ?_)
  · replace h := ite_t q3 h
    refine q_iconst hX dX9_run_108 (v := (nI 3)) (by decide) ?_
    exact q_dr (w_X9_run_b109 hX hT    _ _ (isC_n (by decide)) h) ⟨Or.inr rfl, Or.inl rfl, Or.inr rfl, trivial⟩
  · replace h := ite_f q3 h
    refine q_iconst hX dX9_run_104 (v := (nI 0)) (by decide) ?_
    refine q_goto hX dX9_run_105 (tgt := 109) (by decide) ?_
    exact q_dr (w_X9_run_b109 hX hT    _ _ (isC_n (by decide)) h) ⟨Or.inr rfl, Or.inl rfl, Or.inr rfl, trivial⟩
set_option maxRecDepth 100000 in
set_option maxHeartbeats 4000000 in
theorem w_X9_run_b74 {X : XT} {D : DT} {l : Launch} {L : LT} {K : Int32 → IT → Prop} (hX : OK X D cX9_run "TeaHouseModel" 3) (hT : RT X l D (some .int) (P2 (Pi L K)) 8 0 0)   : ∀ (v1 : Int32) (s0 : Int32) (I : IT), isZ s0 → isC s0 → f_X9_run_b74 K v1 s0 I → J2 X D 3 0 0 I L 74 [.ref 190, .int v1, .retAddr 0] [.int s0] := by
  have hR := hT.room
  intro v1 s0 I hzs0 hcs0 h
  rw [f_X9_run_b74] at h
  refine q_istore_n hX dX9_run_74 (by decide) (ls' := [_, _, _]) rfl ?_
  refine q_aload_n hX dX9_run_75 rfl ?_
  refine q_iload_n hX dX9_run_76 rfl ?_
  refine q_if_eq hX dX9_run_77 (tgt := 87) (by decide) (fun q1 => ?_) (fun q1 => ?_)
  · replace h := ite_t q1 h
    refine q_iload_n hX dX9_run_87 rfl ?_
    exact q_dr (w_X9_run_b88 hX hT    _ _ _ hzs0 hcs0 h) ⟨Or.inl rfl, Or.inr rfl, Or.inl rfl, trivial⟩
  · replace h := ite_f q1 h
    refine q_aload_n hX dX9_run_80 rfl ?_
    refine q_getI hX gf_X9_24 rfl dX9_run_81 (at_of (n := 0) rfl) ?_
    refine q_goto hX dX9_run_84 (tgt := 88) (by decide) ?_
    exact q_dr (w_X9_run_b88 hX hT    _ _ _ hzs0 hcs0 h) ⟨Or.inl rfl, Or.inr rfl, Or.inl rfl, trivial⟩
set_option maxRecDepth 100000 in
set_option maxHeartbeats 4000000 in
theorem w_X9_run_b61 {X : XT} {D : DT} {l : Launch} {L : LT} {K : Int32 → IT → Prop} (hX : OK X D cX9_run "TeaHouseModel" 3) (hT : RT X l D (some .int) (P2 (Pi L K)) 8 0 0)   : ∀ (v1 : Int32) (I : IT), f_X9_run_b61 K v1 I → J2 X D 3 0 0 I L 61 [.ref 190, .int v1, .retAddr 0] [] := by
  have hR := hT.room
  intro v1 I h
  rw [f_X9_run_b61] at h
  refine q_iload_n hX dX9_run_61 rfl ?_
  refine q_aload_n hX dX9_run_62 rfl ?_
  refine q_getI hX gf_X9_207 rfl dX9_run_63 (at_of (n := 0) rfl) ?_
  refine q_icmp_ne hX dX9_run_66 (tgt := 73) (by decide) (fun q1 => ?_) (fun q1 => ?_)
  · replace h := ite_f q1 h
    refine q_iconst hX dX9_run_73 (v := (nI 0)) (by decide) ?_
    exact q_dr (w_X9_run_b74 hX hT    _ _ _ (Or.inl rfl) (isC_n (by decide)) h) ⟨Or.inl rfl, Or.inl rfl, Or.inl rfl, trivial⟩
  · replace h := ite_t q1 h
    refine q_iconst hX dX9_run_69 (v := (nI 1)) (by decide) ?_
    refine q_goto hX dX9_run_70 (tgt := 74) (by decide) ?_
    exact q_dr (w_X9_run_b74 hX hT    _ _ _ (Or.inr rfl) (isC_n (by decide)) h) ⟨Or.inl rfl, Or.inl rfl, Or.inl rfl, trivial⟩
set_option maxRecDepth 100000 in
set_option maxHeartbeats 4000000 in
theorem w_X9_run {l : Launch} {D : DT} {L : LT}  {I : IT} {K : Int32 → IT → Prop}  (h : f_X9_run  I K) : Con2 l D m_X9_run 8 [.ref 190] 0 0 I L (Pi L K) := by
  refine Con2.of (by decide +kernel) (by simp [Value.category]) (Nat.le_of_ble_eq_true rfl) (fun X hX hT => ?_)
  have hX : OK X D cX9_run "TeaHouseModel" 3 := hX
  have hT : RT X l D (some .int) (P2 (Pi L K)) 8 0 0 := hT
  have hR := hT.room
  change J2 X D 3 0 0 I L 0 [.ref 190, .retAddr 0, .retAddr 0] []
  rw [f_X9_run] at h
  refine q_aload_n hX dX9_run_0 rfl ?_
  refine q_V_v hX hR (w_X9_parse  h) lk_X9_219 (rc2_of (ci := 10) rfl rfl) dX9_run_1 rfl rfl (Nat.le_of_ble_eq_true rfl) (by omega) (by omega) (by omega) ?_
  intro I1 h
  refine q_aload_n hX dX9_run_4 rfl ?_
  refine q_iconst hX dX9_run_5 (v := (nI 0)) (by decide) ?_
  replace h := wr_e h
  refine q_putI hX pf_X9_189 rfl dX9_run_6 (at_of (n := 0) rfl) rfl rfl ?_
  generalize up2 _ _ _ _ = I2 at h ⊢
  refine q_aload_n hX dX9_run_9 rfl ?_
  refine q_getI hX gf_X9_195 rfl dX9_run_10 (at_of (n := 0) rfl) ?_
  refine q_if_lt hX dX9_run_13 (tgt := 31) (by decide) (fun q3 => ?_) (fun q3 => ?_)
  · replace h := ite_t q3 h
    refine q_aload_n hX dX9_run_31 rfl ?_
    refine q_V_v hX hR (w_X9_begins  h) lk_X9_67 (rc2_of (ci := 10) rfl rfl) dX9_run_32 rfl rfl (Nat.le_of_ble_eq_true rfl) (by omega) (by omega) (by omega) ?_
    intro I4 h
    refine q_iconst hX dX9_run_35 (v := (nI 0)) (by decide) ?_
    refine q_istore_n hX dX9_run_36 (by decide) (ls' := [_, _, _]) rfl ?_
    exact q_dr (w_X9_run_b37 hX hT  (fun _ _ h => w_X9_run_b61 hX hT    _ _  h) _  _ _  h) ⟨Or.inl rfl, Or.inl rfl, Or.inl rfl, trivial⟩
  · replace h := ite_f q3 h
    refine q_aload_n hX dX9_run_16 rfl ?_
    refine q_aload_n hX dX9_run_17 rfl ?_
    refine q_getI hX gf_X9_195 rfl dX9_run_18 (at_of (n := 0) rfl) ?_
    replace h := wr_e h
    refine q_putI hX pf_X9_20 rfl dX9_run_21 (at_of (n := 0) rfl) rfl rfl ?_
    generalize up2 _ _ _ _ = I5 at h ⊢
    refine q_aload_n hX dX9_run_24 rfl ?_
    refine q_iconst hX dX9_run_25 (v := (nI 1)) (by decide) ?_
    replace h := wr_e h
    refine q_putI hX pf_X9_30 rfl dX9_run_26 (at_of (n := 0) rfl) rfl rfl ?_
    generalize up2 _ _ _ _ = I6 at h ⊢
    refine q_iconst hX dX9_run_29 (v := (nI 0)) (by decide) ?_
    exact q_iret hX hT dX9_run_30 h
set_option maxRecDepth 100000 in
set_option maxHeartbeats 4000000 in
theorem w_X9_errorPosition_b14 {X : XT} {D : DT} {l : Launch} {L : LT} {K : Int32 → IT → Prop} (hX : OK X D cX9_errorPosition "TeaHouseModel" 1) (hT : RT X l D (some .int) (P2 (Pi L K)) 2 0 0)   : ∀ (s1 : Int32) (I : IT), isZ s1 → isC s1 → f_X9_errorPosition_b14 K s1 I → J2 X D 1 0 0 I L 14 [.ref 190] [.int s1, .ref 190] := by
  have hR := hT.room
  intro s1 I hzs1 hcs1 h
  rw [f_X9_errorPosition_b14] at h
  refine q_V_z hX hR (w_X9_isFine hzs1 h) lk_X9_149 (rc2_of (ci := 10) rfl rfl) dX9_errorPosition_14 rfl rfl (Nat.le_of_ble_eq_true rfl) (by omega) (by omega) (by omega) ?_
  intro x1 I2 hrx1 h
  refine q_if_eq hX dX9_errorPosition_17 (tgt := 27) (by decide) (fun q3 => ?_) (fun q3 => ?_)
  · replace h := ite_t q3 h
    refine q_iconst hX dX9_errorPosition_27 (v := (nI 0)) (by decide) ?_
    exact q_iret hX hT dX9_errorPosition_28 h
  · replace h := ite_f q3 h
    refine q_aload_n hX dX9_errorPosition_20 rfl ?_
    refine q_getI hX gf_X9_20 rfl dX9_errorPosition_21 (at_of (n := 0) rfl) ?_
    refine q_goto hX dX9_errorPosition_24 (tgt := 28) (by decide) ?_
    exact q_iret hX hT dX9_errorPosition_28 h
set_option maxRecDepth 100000 in
set_option maxHeartbeats 4000000 in
theorem w_X9_errorPosition {l : Launch} {D : DT} {L : LT}  {I : IT} {K : Int32 → IT → Prop}  (h : f_X9_errorPosition  I K) : Con2 l D m_X9_errorPosition 2 [.ref 190] 0 0 I L (Pi L K) := by
  refine Con2.of (by decide +kernel) (by simp [Value.category]) (Nat.le_of_ble_eq_true rfl) (fun X hX hT => ?_)
  have hX : OK X D cX9_errorPosition "TeaHouseModel" 1 := hX
  have hT : RT X l D (some .int) (P2 (Pi L K)) 2 0 0 := hT
  have hR := hT.room
  change J2 X D 1 0 0 I L 0 [.ref 190] []
  rw [f_X9_errorPosition] at h
  refine q_aload_n hX dX9_errorPosition_0 rfl ?_
  refine q_aload_n hX dX9_errorPosition_1 rfl ?_
  refine q_getI hX gf_X9_20 rfl dX9_errorPosition_2 (at_of (n := 0) rfl) ?_
  refine q_iconst hX dX9_errorPosition_5 (v := (-1)) (by decide) ?_
  refine q_icmp_eq hX dX9_errorPosition_6 (tgt := 13) (by decide) (fun q1 => ?_) (fun q1 => ?_)
  · replace h := ite_t q1 h
    refine q_iconst hX dX9_errorPosition_13 (v := (nI 0)) (by decide) ?_
    exact q_dr (w_X9_errorPosition_b14 hX hT    _ _ (Or.inl rfl) (isC_n (by decide)) h) ⟨Or.inl rfl, trivial⟩
  · replace h := ite_f q1 h
    refine q_iconst hX dX9_errorPosition_9 (v := (nI 1)) (by decide) ?_
    refine q_goto hX dX9_errorPosition_10 (tgt := 14) (by decide) ?_
    exact q_dr (w_X9_errorPosition_b14 hX hT    _ _ (Or.inr rfl) (isC_n (by decide)) h) ⟨Or.inl rfl, trivial⟩
set_option maxRecDepth 100000 in
set_option maxHeartbeats 4000000 in
theorem w_X9_failedCommand_b14 {X : XT} {D : DT} {l : Launch} {L : LT} {K : Int32 → IT → Prop} (hX : OK X D cX9_failedCommand "TeaHouseModel" 1) (hT : RT X l D (some .int) (P2 (Pi L K)) 2 0 0)   : ∀ (s1 : Int32) (I : IT), isZ s1 → isC s1 → f_X9_failedCommand_b14 K s1 I → J2 X D 1 0 0 I L 14 [.ref 190] [.int s1, .ref 190] := by
  have hR := hT.room
  intro s1 I hzs1 hcs1 h
  rw [f_X9_failedCommand_b14] at h
  refine q_V_z hX hR (w_X9_isFine hzs1 h) lk_X9_149 (rc2_of (ci := 10) rfl rfl) dX9_failedCommand_14 rfl rfl (Nat.le_of_ble_eq_true rfl) (by omega) (by omega) (by omega) ?_
  intro x1 I2 hrx1 h
  refine q_if_eq hX dX9_failedCommand_17 (tgt := 27) (by decide) (fun q3 => ?_) (fun q3 => ?_)
  · replace h := ite_t q3 h
    refine q_iconst hX dX9_failedCommand_27 (v := (nI 0)) (by decide) ?_
    exact q_iret hX hT dX9_failedCommand_28 h
  · replace h := ite_f q3 h
    refine q_aload_n hX dX9_failedCommand_20 rfl ?_
    refine q_getI hX gf_X9_24 rfl dX9_failedCommand_21 (at_of (n := 0) rfl) ?_
    refine q_goto hX dX9_failedCommand_24 (tgt := 28) (by decide) ?_
    exact q_iret hX hT dX9_failedCommand_28 h
set_option maxRecDepth 100000 in
set_option maxHeartbeats 4000000 in
theorem w_X9_failedCommand {l : Launch} {D : DT} {L : LT}  {I : IT} {K : Int32 → IT → Prop}  (h : f_X9_failedCommand  I K) : Con2 l D m_X9_failedCommand 2 [.ref 190] 0 0 I L (Pi L K) := by
  refine Con2.of (by decide +kernel) (by simp [Value.category]) (Nat.le_of_ble_eq_true rfl) (fun X hX hT => ?_)
  have hX : OK X D cX9_failedCommand "TeaHouseModel" 1 := hX
  have hT : RT X l D (some .int) (P2 (Pi L K)) 2 0 0 := hT
  have hR := hT.room
  change J2 X D 1 0 0 I L 0 [.ref 190] []
  rw [f_X9_failedCommand] at h
  refine q_aload_n hX dX9_failedCommand_0 rfl ?_
  refine q_aload_n hX dX9_failedCommand_1 rfl ?_
  refine q_getI hX gf_X9_24 rfl dX9_failedCommand_2 (at_of (n := 0) rfl) ?_
  refine q_iconst hX dX9_failedCommand_5 (v := (-1)) (by decide) ?_
  refine q_icmp_eq hX dX9_failedCommand_6 (tgt := 13) (by decide) (fun q1 => ?_) (fun q1 => ?_)
  · replace h := ite_t q1 h
    refine q_iconst hX dX9_failedCommand_13 (v := (nI 0)) (by decide) ?_
    exact q_dr (w_X9_failedCommand_b14 hX hT    _ _ (Or.inl rfl) (isC_n (by decide)) h) ⟨Or.inl rfl, trivial⟩
  · replace h := ite_f q1 h
    refine q_iconst hX dX9_failedCommand_9 (v := (nI 1)) (by decide) ?_
    refine q_goto hX dX9_failedCommand_10 (tgt := 14) (by decide) ?_
    exact q_dr (w_X9_failedCommand_b14 hX hT    _ _ (Or.inr rfl) (isC_n (by decide)) h) ⟨Or.inl rfl, trivial⟩
set_option maxRecDepth 100000 in
set_option maxHeartbeats 4000000 in
theorem w_X9_undoableCount {l : Launch} {D : DT} {L : LT}  {I : IT} {K : Int32 → IT → Prop}  (h : f_X9_undoableCount  I K) : Con2 l D m_X9_undoableCount 1 [.ref 190] 0 0 I L (Pi L K) := by
  refine Con2.of (by decide +kernel) (by simp [Value.category]) (Nat.le_of_ble_eq_true rfl) (fun X hX hT => ?_)
  have hX : OK X D cX9_undoableCount "TeaHouseModel" 1 := hX
  have hT : RT X l D (some .int) (P2 (Pi L K)) 1 0 0 := hT
  have hR := hT.room
  change J2 X D 1 0 0 I L 0 [.ref 190] []
  rw [f_X9_undoableCount] at h
  refine q_aload_n hX dX9_undoableCount_0 rfl ?_
  refine q_iconst hX dX9_undoableCount_1 (v := (nI 0)) (by decide) ?_
  replace h := wr_e h
  refine q_putI hX pf_X9_30 rfl dX9_undoableCount_2 (at_of (n := 0) rfl) rfl rfl ?_
  generalize up2 _ _ _ _ = I1 at h ⊢
  refine q_aload_n hX dX9_undoableCount_5 rfl ?_
  refine q_getI hX gf_X9_37 rfl dX9_undoableCount_6 (at_of (n := 0) rfl) ?_
  exact q_iret hX hT dX9_undoableCount_9 h
set_option maxRecDepth 100000 in
set_option maxHeartbeats 4000000 in
theorem w_X9_undo_b13 {X : XT} {D : DT} {l : Launch} {L : LT} {K : Int32 → IT → Prop} (hX : OK X D cX9_undo "TeaHouseModel" 1) (hT : RT X l D (some .int) (P2 (Pi L K)) 2 0 0)   : ∀ (s1 : Int32) (I : IT), isZ s1 → isC s1 → f_X9_undo_b13 K s1 I → J2 X D 1 0 0 I L 13 [.ref 190] [.int s1, .ref 190] := by
  have hR := hT.room
  intro s1 I hzs1 hcs1 h
  rw [f_X9_undo_b13] at h
  refine q_V_z hX hR (w_X9_isFine hzs1 h) lk_X9_149 (rc2_of (ci := 10) rfl rfl) dX9_undo_13 rfl rfl (Nat.le_of_ble_eq_true rfl) (by omega) (by omega) (by omega) ?_
  intro x1 I2 hrx1 h
  refine q_if_ne hX dX9_undo_16 (tgt := 21) (by decide) (fun q3 => ?_) (fun q3 => ?_)
  · replace h := ite_f q3 h
    refine q_aload_n hX dX9_undo_21 rfl ?_
    refine q_aload_n hX dX9_undo_22 rfl ?_
    refine q_getI hX gf_X9_37 rfl dX9_undo_23 (at_of (n := 0) rfl) ?_
    refine q_iconst hX dX9_undo_26 (v := (nI 0)) (by decide) ?_
    refine q_V_v hX hR (w_X9_copies  h) lk_X9_33 (rc2_of (ci := 10) rfl rfl) dX9_undo_27 rfl rfl (Nat.le_of_ble_eq_true rfl) (by omega) (by omega) (by omega) ?_
    intro I4 h
    refine q_aload_n hX dX9_undo_30 rfl ?_
    refine q_dup hX dX9_undo_31 rfl ?_
    refine q_getI hX gf_X9_37 rfl dX9_undo_32 (at_of (n := 0) rfl) ?_
    refine q_iconst hX dX9_undo_35 (v := (nI 1)) (by decide) ?_
    refine q_isub hX dX9_undo_36 ?_
    replace h := wr_e h
    refine q_putI hX pf_X9_37 rfl dX9_undo_37 (at_of (n := 0) rfl) rfl rfl ?_
    generalize up2 _ _ _ _ = I5 at h ⊢
    refine q_aload_n hX dX9_undo_40 rfl ?_
    refine q_getI hX gf_X9_37 rfl dX9_undo_41 (at_of (n := 0) rfl) ?_
    exact q_iret hX hT dX9_undo_44 h
  · replace h := ite_t q3 h
    refine q_iconst hX dX9_undo_19 (v := (nI 0)) (by decide) ?_
    exact q_iret hX hT dX9_undo_20 h
set_option maxRecDepth 100000 in
set_option maxHeartbeats 4000000 in
theorem w_X9_undo {l : Launch} {D : DT} {L : LT}  {I : IT} {K : Int32 → IT → Prop}  (h : f_X9_undo  I K) : Con2 l D m_X9_undo 2 [.ref 190] 0 0 I L (Pi L K) := by
  refine Con2.of (by decide +kernel) (by simp [Value.category]) (Nat.le_of_ble_eq_true rfl) (fun X hX hT => ?_)
  have hX : OK X D cX9_undo "TeaHouseModel" 1 := hX
  have hT : RT X l D (some .int) (P2 (Pi L K)) 2 0 0 := hT
  have hR := hT.room
  change J2 X D 1 0 0 I L 0 [.ref 190] []
  rw [f_X9_undo] at h
  refine q_aload_n hX dX9_undo_0 rfl ?_
  refine q_aload_n hX dX9_undo_1 rfl ?_
  refine q_getI hX gf_X9_37 rfl dX9_undo_2 (at_of (n := 0) rfl) ?_
  refine q_if_le hX dX9_undo_5 (tgt := 12) (by decide) (fun q1 => ?_) (fun q1 => ?_)
  · replace h := ite_t q1 h
    refine q_iconst hX dX9_undo_12 (v := (nI 0)) (by decide) ?_
    exact q_dr (w_X9_undo_b13 hX hT    _ _ (Or.inl rfl) (isC_n (by decide)) h) ⟨Or.inl rfl, trivial⟩
  · replace h := ite_f q1 h
    refine q_iconst hX dX9_undo_8 (v := (nI 1)) (by decide) ?_
    refine q_goto hX dX9_undo_9 (tgt := 13) (by decide) ?_
    exact q_dr (w_X9_undo_b13 hX hT    _ _ (Or.inr rfl) (isC_n (by decide)) h) ⟨Or.inl rfl, trivial⟩
set_option maxRecDepth 100000 in
set_option maxHeartbeats 4000000 in
theorem w_X9_save {l : Launch} {D : DT} {L : LT}  {I : IT} {K : Int32 → IT → Prop}  (h : f_X9_save  I K) : Con2 l D m_X9_save 2 [.ref 190] 0 0 I L (Pi L K) := by
  refine Con2.of (by decide +kernel) (by simp [Value.category]) (Nat.le_of_ble_eq_true rfl) (fun X hX hT => ?_)
  have hX : OK X D cX9_save "TeaHouseModel" 1 := hX
  have hT : RT X l D (some .int) (P2 (Pi L K)) 2 0 0 := hT
  have hR := hT.room
  change J2 X D 1 0 0 I L 0 [.ref 190] []
  rw [f_X9_save] at h
  refine q_aload_n hX dX9_save_0 rfl ?_
  refine q_iconst hX dX9_save_1 (v := (nI 0)) (by decide) ?_
  replace h := wr_e h
  refine q_putI hX pf_X9_30 rfl dX9_save_2 (at_of (n := 0) rfl) rfl rfl ?_
  generalize up2 _ _ _ _ = I1 at h ⊢
  refine q_aload_n hX dX9_save_5 rfl ?_
  refine q_iconst hX dX9_save_6 (v := (nI 1)) (by decide) ?_
  replace h := wr_e h
  refine q_putI hX pf_X9_225 rfl dX9_save_7 (at_of (n := 0) rfl) (nar_z (Or.inr rfl)) (fit_z (Or.inr rfl)) ?_
  generalize up2 _ _ _ _ = I2 at h ⊢
  refine q_aload_n hX dX9_save_10 rfl ?_
  refine q_iconst hX dX9_save_11 (v := (nI 0)) (by decide) ?_
  refine q_bipush hX dX9_save_12 (v := (nI 9)) (by decide) ?_
  refine q_V_v hX hR (w_X9_copies  h) lk_X9_33 (rc2_of (ci := 10) rfl rfl) dX9_save_14 rfl rfl (Nat.le_of_ble_eq_true rfl) (by omega) (by omega) (by omega) ?_
  intro I3 h
  refine q_aload_n hX dX9_save_17 rfl ?_
  refine q_getR hX gf_X9_9 rfl dX9_save_18 (at_of (n := 0) rfl) (b := 191) rfl ?_
  refine q_iconst hX dX9_save_21 (v := (nI 1)) (by decide) ?_
  refine q_iald hX dX9_save_22 (at_of (a := 191) (t := 22) (n := 1236) rfl) (j := 1) rfl (by decide) (by decide) ?_
  exact q_iret hX hT dX9_save_23 h
set_option maxRecDepth 100000 in
set_option maxHeartbeats 4000000 in
theorem w_X9_restore {l : Launch} {D : DT} {L : LT}  {I : IT} {K : Int32 → IT → Prop}  (h : f_X9_restore  I K) : Con2 l D m_X9_restore 2 [.ref 190] 0 0 I L (Pi L K) := by
  refine Con2.of (by decide +kernel) (by simp [Value.category]) (Nat.le_of_ble_eq_true rfl) (fun X hX hT => ?_)
  have hX : OK X D cX9_restore "TeaHouseModel" 1 := hX
  have hT : RT X l D (some .int) (P2 (Pi L K)) 2 0 0 := hT
  have hR := hT.room
  change J2 X D 1 0 0 I L 0 [.ref 190] []
  rw [f_X9_restore] at h
  refine q_aload_n hX dX9_restore_0 rfl ?_
  refine q_aload_n hX dX9_restore_1 rfl ?_
  refine q_getI hX gf_X9_225 rfl dX9_restore_2 (at_of (n := 0) rfl) ?_
  obtain ⟨z1, h⟩ := h
  refine q_V_z hX hR (w_X9_isFine z1 h) lk_X9_149 (rc2_of (ci := 10) rfl rfl) dX9_restore_5 rfl rfl (Nat.le_of_ble_eq_true rfl) (by omega) (by omega) (by omega) ?_
  intro x2 I3 hrx2 h
  refine q_if_ne hX dX9_restore_8 (tgt := 13) (by decide) (fun q4 => ?_) (fun q4 => ?_)
  · replace h := ite_f q4 h
    refine q_aload_n hX dX9_restore_13 rfl ?_
    refine q_bipush hX dX9_restore_14 (v := (nI 9)) (by decide) ?_
    refine q_iconst hX dX9_restore_16 (v := (nI 0)) (by decide) ?_
    refine q_V_v hX hR (w_X9_copies  h) lk_X9_33 (rc2_of (ci := 10) rfl rfl) dX9_restore_17 rfl rfl (Nat.le_of_ble_eq_true rfl) (by omega) (by omega) (by omega) ?_
    intro I5 h
    refine q_aload_n hX dX9_restore_20 rfl ?_
    refine q_iconst hX dX9_restore_21 (v := (nI 0)) (by decide) ?_
    replace h := wr_e h
    refine q_putI hX pf_X9_37 rfl dX9_restore_22 (at_of (n := 0) rfl) rfl rfl ?_
    generalize up2 _ _ _ _ = I6 at h ⊢
    refine q_aload_n hX dX9_restore_25 rfl ?_
    refine q_getR hX gf_X9_9 rfl dX9_restore_26 (at_of (n := 0) rfl) (b := 191) rfl ?_
    refine q_iconst hX dX9_restore_29 (v := (nI 1)) (by decide) ?_
    refine q_iald hX dX9_restore_30 (at_of (a := 191) (t := 22) (n := 1236) rfl) (j := 1) rfl (by decide) (by decide) ?_
    exact q_iret hX hT dX9_restore_31 h
  · replace h := ite_t q4 h
    refine q_iconst hX dX9_restore_11 (v := (nI 0)) (by decide) ?_
    exact q_iret hX hT dX9_restore_12 h
