/-! ===== the library's own code, by its bytes ===== -/
theorem fcmp_s {a : UInt32} (h : vf_n32 a) : Op.cmpValue (FP.fcmp a a) .l = 0 := by
  have h2 : FP.fIsNaN a = false := by
    unfold vf_n32 at h
    rw [UInt32.le_iff_toNat_le, FP.Core.mask_toNat32] at h
    have h : a.toNat % 2 ^ 31 ≤ 2139095040 := h
    have q : ¬ FP.Core.fIsNaN a = true := fun q => by
      have := (FP.Core.isNaN_bits32 a).mp q
      omega
    exact Bool.eq_false_iff.mpr q
  have e : FP.fcmp a a = some .eq := FP.Core.fcmp_refl h2
  rw [e]; rfl
theorem ch_b : ∀ c : Nat, c < 128 → (((nI c) &&& (nI 255)).toUInt32 % 65536).toInt32 = nI c := by decide +kernel
theorem by_b : ∀ c : Nat, c < 128 → (nI c).toInt8.toInt32 = nI c := by decide +kernel
theorem ch_x {x : Int32} (h1 : 0 ≤ x.toInt) (h2 : x.toInt < 128) : ((x &&& (nI 255)).toUInt32 % 65536).toInt32 = x := by
  obtain ⟨n, -, rfl, h4⟩ := x_nat h1
  exact ch_b n (by omega)
/-- a String constant's rows -/
def strL (k : Nat) : List Nat := strT (1000000 + k)
theorem str_F1 : ∀ j, j < 14 → ("java/lang/String", "coder", "B", Value.int 0, 53 + j) ∈ cF := by decide +kernel
theorem str_F2 : ∀ j, j < 14 → ("java/lang/String", "value", "[B", Value.ref (1000000 + (60 + (53 + j))), 53 + j) ∈ cF := by decide +kernel
theorem str_O : ∀ j, j < 14 → ("java/lang/String", 53 + j) ∈ cO := by decide +kernel
theorem str_T : ∀ j, j < 14 → (FieldType.byte, 60 + (53 + j), (strL (53 + j)).length, (strL (53 + j)).map (fun c => Value.int (nI c))) ∈ cT := by decide +kernel
theorem str_rows (k : Nat) (h2 : k < 67) (h1 : 53 ≤ k) : ("java/lang/String", "coder", "B", Value.int 0, k) ∈ cF ∧ ("java/lang/String", "value", "[B", Value.ref (1000000 + (60 + k)), k) ∈ cF ∧ ("java/lang/String", k) ∈ cO ∧ (FieldType.byte, 60 + k, (strL k).length, (strL k).map (fun c => Value.int (nI c))) ∈ cT := by
  obtain ⟨j, rfl⟩ : ∃ j, k = 53 + j := ⟨k - 53, by omega⟩
  have hj : j < 14 := by omega
  exact ⟨str_F1 j hj, str_F2 j hj, str_O j hj, str_T j hj⟩
theorem str_sm : ∀ k, k < 67 → 53 ≤ k → (strL k).length < 100 ∧ ∀ j, j < (strL k).length → (strL k).getD j 0 < 128 := by decide +kernel
theorem vp_Vmap (l : List Nat) {j : Nat} (h : j < l.length) : vp_V (l.map (fun c => Value.int (nI c))) j = .int (nI (l.getD j 0)) := by
  unfold vp_V
  rw [List.getD_eq_getElem?_getD, List.getElem?_map, List.getD_eq_getElem?_getD]
  rw [List.getElem?_eq_getElem h]
  rfl
theorem isStr_k {a : Nat} (h : isStr a) : ∃ k, a = 1000000 + k ∧ 53 ≤ k ∧ k < 67 := by
  simp only [isStr, Bool.and_eq_true, decide_eq_true_eq] at h
  exact ⟨a - 1000000, by omega, by omega, by omega⟩
theorem rc_str {G : GT} {k : Nat} (h1 : 53 ≤ k) (h2 : k < 67) : RC G "java/lang/String" (1000000 + k) := Or.inr ⟨k, rfl, (str_rows k h2 h1).2.2.1⟩
theorem hq_cs : ("java/lang/String", "COMPACT_STRINGS", "Z", Value.int 1) ∈ cZ := by decide +kernel
theorem one_ne : ¬ (1 : Int32) = 0 := by decide
/-! a body of a class one of whose methods is run by a native's row, none of them this one -/
section BodyF
variable {l : Launch}
theorem vy_ofWF {y : MethodName} {ws ws' : List Cond} {rm : Room} {Pc : Array Value → State → Prop} {Qc : Array Value → State → Outcome → State → Prop} {XC : String → State → State → Prop} {mc ms : Nat} {free : Addr → Prop} {cc : ByteArray} {maxL : Nat} {ret : Option FieldType}
    (hy : plainFor y = true) (hw : ws = Cond.code y cc maxL ret :: ws')
    (body : ∀ p e s m args below meth c s₁, BodyLoose p l y (headSpec ws rm) cc maxL ret e s m args below meth c s₁ → c.maxLocals = maxL → (∀ x ∈ c.exceptionTable.toList, False) → Pc args s →
      W p l e (headSpec ws rm).room s m args below meth c s.heap [] 0 0 (vx_MQ below Qc XC args s mc ms free) (entryFrame m args maxL)) : vx_Met l y ws rm Pc Qc XC mc ms free := by
  refine MetFree.of_bodySF (code := cc) (maxLocals := maxL) (ret := ret) hy ?_ ?_
  · intro args s m h hn
    obtain ⟨meth, c, h1, h2, h3, h4, h5, h6, -, -⟩ := Cond.code_spec hn (atoms_spec (ws := ws) h _ (by rw [hw]; exact List.mem_cons_self))
    exact ⟨meth, c, h1, h2, h3, h4, h5, h6⟩
  · intro p e s m args below meth c s₁ B hml hP _
    have hh0 : s₁.heap = s.heap := by rw [B.state]; rfl
    have ht : ∀ x ∈ c.exceptionTable.toList, False := by
      obtain ⟨meth9, c9, h1, h2, -, -, -, -, h7, -⟩ := Cond.code_spec B.named (atoms_spec (ws := ws) B.pre _ (by rw [hw]; exact List.mem_cons_self))
      cases Option.some.inj (h1.symm.trans B.method)
      cases Option.some.inj (h2.symm.trans (Stand.of_body B).code)
      intro x hx
      rw [Array.isEmpty_iff.mp h7] at hx
      cases hx
    obtain ⟨t, a1, o, b1, b2, b3⟩ := body p e s m args below meth c s₁ B hml ht hP s₁ hh0 (Stand.of_body B)
    exact ⟨t, o, a1, b1, b2, b3⟩
end BodyF
theorem Con.ofF {l : Launch} {D : DT} {M : MD} {d mc ms : Nat} {av : List Value} {G : GT} {I : IT} {L : LT} {P : Res → GT → IT → LT → Prop} (hy : plainFor M.1 = true) (hc : ∀ v ∈ av, v.category = 1) (hn : av.length ≤ M.2.2.1) (hb : mc = 0 ∨ G.1 + mc < 1000000)
    (body : ∀ X : XT, OK X D M.2.1 M.1.cls M.2.2.1 → RT X l D M.2.2.2 P d mc ms → (M.1.name = "<init>" → InInit X) → J X D M.2.2.1 0 0 G I L 0 (ent av M.2.2.1) []) : Con l D M d av mc ms G I L P := by
  refine vy_ofWF (cc := M.2.1) (maxL := M.2.2.1) (ret := M.2.2.2) hy rfl ?_
  intro p e s m args below meth c s₁ B hml htab hv
  obtain ⟨rfl, hR, hF⟩ := hv
  have hts := atoms_spec (ws := Cond.code M.1 M.2.1 M.2.2.1 M.2.2.2 :: TW) B.pre
  have hown : s.vm.findClass M.1.cls = some m.cls := findClass_of_methodNamed B.named
  have hl := lv_entry (av.map (tv D)) (n := M.2.2.1) (by rw [lg_sl_len av hc]; exact hn)
  rw [lg_entry_eq]
  generalize (lg_sl (av.map (tv D)) ++ List.replicate (M.2.2.1 - (lg_sl (av.map (tv D))).length) Slot.unset).toArray = ls at hl ⊢
  have hX : OK (p, l, e, (headSpec (Cond.code M.1 M.2.1 M.2.2.1 M.2.2.2 :: TW) (rmD d mc ms)).room, s, m, (av.map (tv D)).toArray, below, meth, c, vx_MQ below (QcP D P) (XCP D P) (av.map (tv D)).toArray s mc ms (Ad D)) D M.2.1 M.1.cls M.2.2.1 :=
    ⟨B.exec, B.bytes, hml, hown, fun w hw => hts w (List.mem_cons_of_mem _ hw), hF, B.notSynchronized, by rw [hR.1]; exact Nat.le_add_right _ _, hR.2.2.1⟩
  have h := body _ hX ⟨rfl, B.returns, ⟨rfl, Nat.le_refl _, Nat.le_refl _, Nat.le_refl _, Nat.le_refl _, by
    show s.heap.size + mc < D.1 + 1000000
    have h1 := hR.1
    have h2 := hR.2.1
    rcases hb with rfl | hb <;> omega⟩, htab⟩ (fun hi => (name_of_methodNamed B.named B.method).1.trans hi)
  exact h s.heap [] ls hR (Nat.le_refl _) (fun q h => by cases h) ⟨by simp [ent]; omega, lv_mono hl (lprs_pad av 0 _ hc)⟩
section JdkA
variable {l : Launch} {D : DT} {G : GT} {I : IT} {L : LT}
set_option maxRecDepth 100000 in
set_option maxHeartbeats 4000000 in
theorem c_isNaN {a : UInt32} (ha : vf_n32 a) : Con l D m_Jxf58ca_isNaN_12338 1 [.float a] 0 0 G I L (PqI G I L (nI 0)) := by
  refine Con.ofF (by decide +kernel) (by simp [Value.category]) (Nat.le_of_ble_eq_true rfl) (Or.inl rfl) (fun X hX hT _ => ?_)
  have hX : OK X D cJxf58ca_isNaN_12338 "java/lang/Float" 1 := hX
  have hR := RT.room hT
  change J X D 1 0 0 _ _ _ 0 [.float a] []
  refine r_fload_n hX dJxf58ca_isNaN_12338_0 rfl ?_
  refine r_fload_n hX dJxf58ca_isNaN_12338_1 rfl ?_
  refine r_fcmp hX dJxf58ca_isNaN_12338_2 ?_
  refine r_if_eq hX dJxf58ca_isNaN_12338_3 (tgt := 10) (by decide) (fun _ => ?_) (fun h => absurd (fcmp_s ha) h)
  refine r_iconst hX dJxf58ca_isNaN_12338_10 (v := nI 0) (by decide) ?_
  exact r_iretI hX hT dJxf58ca_isNaN_12338_11 (by decide) (by decide) (by decide)
set_option maxRecDepth 100000 in
set_option maxHeartbeats 4000000 in
theorem w_Jxf58ca_floatToIntBits_5c35a {a0 : UInt32} {K : Int32 → Prop} (h : f_Jxf58ca_floatToIntBits_5c35a a0 I K) : Con2 l D m_Jxf58ca_floatToIntBits_5c35a 8 [.float a0] 0 0 I L (Pi L (fun x I' => I' = I ∧ K x)) := by
  obtain ⟨ha, h⟩ := h
  intro G I' hl _
  refine Con.ofF (by decide +kernel) (by simp [Value.category]) (Nat.le_of_ble_eq_true rfl) (Or.inl rfl) (fun X hX hT _ => ?_)
  have hX : OK X D cJxf58ca_floatToIntBits_5c35a "java/lang/Float" 1 := hX
  have hR := RT.room hT
  change J X D 1 0 0 _ _ _ 0 [.float a0] []
  refine r_fload_n hX dJxf58ca_floatToIntBits_5c35a_0 rfl ?_
  refine r_Si hX hR (c_isNaN ha) lk_Jxf58ca_59 dJxf58ca_floatToIntBits_5c35a_1 rfl rfl (Nat.le_of_ble_eq_true rfl) (by decide) (by first | decide | omega) (by first | decide | omega) ?_
  refine r_if_ne hX dJxf58ca_floatToIntBits_5c35a_4 (tgt := 12) (by decide) (fun h => absurd nI_0 h) (fun _ => ?_)
  refine r_fload_n hX dJxf58ca_floatToIntBits_5c35a_7 rfl ?_
  refine r_fbits hX hR rfl dJxf58ca_floatToIntBits_5c35a_8 (Nat.le_of_ble_eq_true rfl) (by decide) ?_
  exact r_iret hX hT dJxf58ca_floatToIntBits_5c35a_11 (by first | rfl | decide) ⟨I, hl, rfl, _, rfl, rfl, h⟩
set_option maxRecDepth 100000 in
set_option maxHeartbeats 4000000 in
theorem c_J3_check {x N : Nat} (hxN : x < N) (hN : N < 2 ^ 31) {v : Value} (hv : v.category = 1) : Con l D m_J3_checkIndex_8e157 1 [.int (nI x), .int (nI N), v] 0 0 G I L (PqI G I L (nI x)) := by
  refine Con.of (by decide +kernel) (fun u hu => by
    simp only [List.mem_cons, List.not_mem_nil, or_false] at hu
    rcases hu with rfl | rfl | rfl
    · rfl
    · rfl
    · exact hv) (Nat.le_of_ble_eq_true rfl) (Or.inl rfl) (fun X hX hT _ => ?_)
  have hX : OK X D cJ3_checkIndex_8e157 "jdk/internal/util/Preconditions" 3 := hX
  have hR := RT.room hT
  change J X D 3 0 0 _ _ _ 0 [.int (nI x), .int (nI N), v] []
  refine r_iload_n hX dJ3_checkIndex_8e157_0 rfl ?_
  refine r_if_lt hX dJ3_checkIndex_8e157_1 (tgt := 9) (by decide) (fun h => absurd h (nI_pos (Nat.lt_trans hxN hN))) (fun _ => ?_)
  refine r_iload_n hX dJ3_checkIndex_8e157_4 rfl ?_
  refine r_iload_n hX dJ3_checkIndex_8e157_5 rfl ?_
  refine r_icmp_lt hX dJ3_checkIndex_8e157_6 (tgt := 16) (by decide) (fun _ => ?_) (fun h => absurd (nI_lt hxN hN) h)
  refine r_iload_n hX dJ3_checkIndex_8e157_16 rfl ?_
  exact r_iretI hX hT dJ3_checkIndex_8e157_17 rfl (by decide) (by decide)
set_option maxRecDepth 100000 in
set_option maxHeartbeats 4000000 in
theorem c_J0_check {x N : Nat} (hxN : x < N) (hN : N < 2 ^ 31) : Con l D m_J0_checkIndex_df160 2 [.int (nI x), .int (nI N)] 0 0 G I L (PqV G I L) := by
  refine Con.of (by decide +kernel) (by simp [Value.category]) (Nat.le_of_ble_eq_true rfl) (Or.inl rfl) (fun X hX hT _ => ?_)
  have hX : OK X D cJ0_checkIndex_df160 "java/lang/String" 2 := hX
  have hR := RT.room hT
  change J X D 2 0 0 _ _ _ 0 [.int (nI x), .int (nI N)] []
  refine r_iload_n hX dJ0_checkIndex_df160_0 rfl ?_
  refine r_iload_n hX dJ0_checkIndex_df160_1 rfl ?_
  have fin : ∀ v : Value, v.category = 1 → J X D 2 0 0 G I L 5 [.int (nI x), .int (nI N)] [v, .int (nI N), .int (nI x)] := by
    intro v hv
    refine r_Si (As := [.int (nI x), .int (nI N), v]) hX hR (c_J3_check hxN hN hv) lk_J0_1059 dJ0_checkIndex_df160_5 rfl rfl (Nat.le_of_ble_eq_true rfl) (by decide) (by first | decide | omega) (by first | decide | omega) ?_
    refine r_pop hX dJ0_checkIndex_df160_8 rfl ?_
    exact r_vretV hX hT dJ0_checkIndex_df160_9 (by decide) (by decide)
  exact r_getsZ hX gs_J0_1053 dJ0_checkIndex_df160_2 (fin _ rfl) (fin _ rfl)
end JdkA
