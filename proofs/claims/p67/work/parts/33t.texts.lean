/-! ===== the line's own methods, and those of the texts that the law makes, over the second view ===== -/
theorem txL {a : Nat} {l : List Nat} {I : IT} (h : LNB I l) (ha : a = 60) : tobj I a 2 l := Or.inl ⟨ha, rfl, h⟩
theorem LNB.cnt {I : IT} {l : List Nat} (h : LNB I l) : (I 60 3).toInt = (l.length : Int) := by
  have := h.2.1
  rw [h.1, nI_toInt (by omega)]
/-- letters put at the line's end -/
theorem LNB.app {I : IT} {l m : List Nat} (h : LNB I l) (hl : l.length + m.length ≤ 150) (hm : ∀ j, j < m.length → m.getD j 0 < 128) : LNB (sbApp m I) (l ++ m) ∧ ∀ k, k ≠ 60 → k ≠ 61 → sbApp m I k = I k := by
  obtain ⟨h1, h2, h3⟩ := h
  obtain ⟨g1, g2, g3, g4⟩ := sbApp_e m I l.length h1 hl
  refine ⟨⟨by rw [g2, List.length_append], by rw [List.length_append]; exact hl, fun j hj => ?_⟩, g1⟩
  rw [List.length_append] at hj
  by_cases q : j < l.length
  · have e : (l ++ m).getD j 0 = l.getD j 0 := by
      rw [List.getD_eq_getElem?_getD, List.getD_eq_getElem?_getD, List.getElem?_append_left (by omega)]
    rw [g3 j q, e]; exact h3 j q
  · have e : (l ++ m).getD j 0 = m.getD (j - l.length) 0 := by
      rw [List.getD_eq_getElem?_getD, List.getD_eq_getElem?_getD, List.getElem?_append_right (by omega)]
    have h5 := g4 (j - l.length) (by omega)
    rw [show l.length + (j - l.length) = j by omega] at h5
    rw [h5, e]
    exact ⟨rfl, hm _ (by omega)⟩
/-- the array of a text that is another's is another's -/
theorem LAYB.stb {G : GT} {I I' : IT} {a v s : Nat} {l m : List Nat} (h : LAYB G I I') (t : tobj I a 2 l) (hv : G.2.2 a 0 = some v) (hs : txtV I s m) : ∃ w, STB ((G, I', v), l) s w m := by
  rcases hs with ⟨h1, rfl⟩ | ⟨h1, h2⟩
  · obtain ⟨k, rfl, k1, k2⟩ := isStr_k h1
    exact ⟨1000000 + (60 + k), Or.inl ⟨k, rfl, k1, k2, rfl, rfl⟩, Or.inl ⟨k, rfl, k1, k2, rfl, rfl⟩⟩
  · have ts : tobj I s 1 m := Or.inr ⟨h1, Or.inl rfl, h2⟩
    have hne : s ≠ a := by
      rintro rfl
      exact absurd (tobj.inj ts t).1 (by decide)
    obtain ⟨o1, o2, o3, o4, w, cap, o5, o6, -, o8, o9, -, o11, -, -, -, o15⟩ := h.2.2.2.1 s 1 m ts
    obtain ⟨-, -, -, -, v1, cap1, p5, -, -, p8, -⟩ := h.2.2.2.1 a 2 l t
    rw [hv] at p5
    cases p5
    have e := o11 rfl
    subst e
    refine ⟨w, Or.inr ⟨o1, o2, o5, o6, o8, o9, o3, fun j hj => ⟨o4 j hj, o15 j hj⟩⟩, Or.inr ⟨?_, ?_⟩⟩
    · rintro rfl
      have o2 : G.2.1 s = (0, 0) := o2
      rw [o2] at p8
      cases p8
    · rintro rfl
      exact h.2.2.2.2 s a 1 2 m l ts t hne (o5.trans hv.symm)
theorem LAYB.stg {G : GT} {I I' : IT} {s : Nat} {m : List Nat} (h : LAYB G I I') (hs : txtV I s m) : ∃ w, STG G I' s w m := by
  rcases hs with ⟨h1, rfl⟩ | ⟨h1, h2⟩
  · obtain ⟨k, rfl, k1, k2⟩ := isStr_k h1
    exact ⟨1000000 + (60 + k), Or.inl ⟨k, rfl, k1, k2, rfl, rfl⟩⟩
  · have ts : tobj I s 1 m := Or.inr ⟨h1, Or.inl rfl, h2⟩
    obtain ⟨o1, o2, o3, o4, w, cap, o5, o6, -, o8, o9, -, o11, -, -, -, o15⟩ := h.2.2.2.1 s 1 m ts
    have e := o11 rfl
    subst e
    exact ⟨w, Or.inr ⟨o1, o2, o5, o6, o8, o9, o3, fun j hj => ⟨o4 j hj, o15 j hj⟩⟩⟩
theorem tx_c {a : Nat} (h : (decide (1000053 ≤ a) && decide (a < 1000067)) = true) : isTx a := Or.inl h
theorem Con.mono {l : Launch} {D : DT} {M : MD} {d : Nat} {av : List Value} {mc ms : Nat} {G : GT} {I : IT} {L : LT} {P P' : Res → GT → IT → LT → Prop} (h : Con l D M d av mc ms G I L P) (hP : ∀ r G' I' L', P r G' I' L' → P' r G' I' L') : Con l D M d av mc ms G I L P' := by
  refine Free.MetFree.mono h (fun _ _ h => h) (fun _ _ _ _ _ h => h) (fun a s o s' _ h => ?_)
  rcases h with ⟨⟨v, G', I', L', e, h1, h3⟩, h2⟩ | ⟨q, e, E, ce, L1, ⟨G', I', L', h1, h2⟩, h3⟩
  · exact Or.inl ⟨⟨v, G', I', L', e, hP _ _ _ _ h1, h3⟩, h2⟩
  · exact Or.inr ⟨q, e, E, ce, L1, ⟨G', I', L', hP _ _ _ _ h1, h2⟩, h3⟩
section JdkW
variable {l : Launch} {D : DT} {G : GT} {Z : ZT} {L : LT} {I : IT} {b v cap n : Nat}
set_option maxRecDepth 100000 in
set_option maxHeartbeats 4000000 in
theorem c_J4_appS {s w : Nat} {m : List Nat} (hB : LB b G Z I v cap n) (hs : STB Z s w m) (hn : n + m.length ≤ 150) (hb : G.1 + 1 < 1000000) : Con l D m_J4_append_15ec4 8 [.ref b, .ref s] 1 320 G I L (APP b Z L n m) := by
  refine Con.of (by decide +kernel) (by simp [Value.category]) (Nat.le_of_ble_eq_true rfl) (Or.inr hb) (fun X hX hT _ => ?_)
  have hX : OK X D cJ4_append_15ec4 "java/lang/StringBuilder" 2 := hX
  have hR := RT.room hT
  change J X D 2 0 0 _ _ _ 0 [.ref b, .ref s] []
  refine r_aload_n hX dJ4_append_15ec4_0 rfl ?_
  refine r_aload_n hX dJ4_append_15ec4_1 rfl ?_
  refine r_callSU (As := [.ref s]) hX hR (c_J5_appS hB hs hn hb) APP.quiet lk_J4_29 hB.lt hB.sh (by decide) rfl dJ4_append_15ec4_2 rfl rfl (Nat.le_of_ble_eq_true rfl) (by decide) (by decide) (by decide) ?_
  rintro r G2 I2 L2 ⟨e1, rfl, hB2⟩
  cases e1
  refine r_pop hX dJ4_append_15ec4_5 rfl ?_
  refine r_aload_n hX dJ4_append_15ec4_6 rfl ?_
  exact r_aret hX hT dJ4_append_15ec4_7 (Or.inl ⟨_, rfl⟩) ⟨rfl, rfl, hB2⟩ (by decide) (by decide)
set_option maxRecDepth 100000 in
set_option maxHeartbeats 4000000 in
theorem c_J4_appI {x : Nat} (hB : LB b G Z I v cap n) (hx : x < 2 ^ 31) (hn : n + 10 ≤ 150) (hb : G.1 + 1 < 1000000) : Con l D m_J4_append_bf812 8 [.ref b, .int (nI x)] 1 320 G I L (APP b Z L n (digs 10 x)) := by
  refine Con.of (by decide +kernel) (by simp [Value.category]) (Nat.le_of_ble_eq_true rfl) (Or.inr hb) (fun X hX hT _ => ?_)
  have hX : OK X D cJ4_append_bf812 "java/lang/StringBuilder" 2 := hX
  have hR := RT.room hT
  change J X D 2 0 0 _ _ _ 0 [.ref b, .int (nI x)] []
  refine r_aload_n hX dJ4_append_bf812_0 rfl ?_
  refine r_iload_n hX dJ4_append_bf812_1 rfl ?_
  refine r_callSU (As := [.int (nI x)]) hX hR (c_J5_appI hB hx hn hb) APP.quiet lk_J4_53 hB.lt hB.sh (by decide) rfl dJ4_append_bf812_2 rfl rfl (Nat.le_of_ble_eq_true rfl) (by decide) (by decide) (by decide) ?_
  rintro r G2 I2 L2 ⟨e1, rfl, hB2⟩
  cases e1
  refine r_pop hX dJ4_append_bf812_5 rfl ?_
  refine r_aload_n hX dJ4_append_bf812_6 rfl ?_
  exact r_aret hX hT dJ4_append_bf812_7 (Or.inl ⟨_, rfl⟩) ⟨rfl, rfl, hB2⟩ (by decide) (by decide)
set_option maxRecDepth 100000 in
set_option maxHeartbeats 4000000 in
theorem w_J4_length_8abf5 {K : Int32 → Prop} (h : f_J4_length_8abf5 I K) : Con2 l D m_J4_length_8abf5 8 [.ref 60] 0 0 I L (Pi L (fun x I' => I' = I ∧ K x)) := by
  intro G I' hl hb
  obtain ⟨l0, t0⟩ := hl.2.2.1
  obtain ⟨v, cap, -, hB⟩ := hl.lb (txL t0 rfl)
  have h : K (nI l0.length) := by rw [← t0.1]; exact h
  refine Con.of (by decide +kernel) (by simp [Value.category]) (Nat.le_of_ble_eq_true rfl) (Or.inl rfl) (fun X hX hT _ => ?_)
  have hX : OK X D cJ4_length_8abf5 "java/lang/StringBuilder" 1 := hX
  have hR := RT.room hT
  change J X D 1 0 0 _ _ _ 0 [.ref 60] []
  refine r_aload_n hX dJ4_length_8abf5_0 rfl ?_
  refine r_SUi (As := []) hX hR (c_J5_length hB) lk_J4_343 hB.lt hB.sh (by decide) rfl dJ4_length_8abf5_1 rfl rfl (Nat.le_of_ble_eq_true rfl) (by decide) (by first | decide | omega) (by first | decide | omega) ?_
  exact r_iret hX hT dJ4_length_8abf5_4 rfl ⟨I, hl, rfl, _, rfl, rfl, h⟩
set_option maxRecDepth 100000 in
set_option maxHeartbeats 4000000 in
theorem w_J4_charAt_5068e {a1 : Int32} {K : Int32 → Prop} (h : f_J4_charAt_5068e a1 I K) : Con2 l D m_J4_charAt_5068e 8 [.ref 60, .int a1] 0 0 I L (Pc L (fun x I' => I' = I ∧ K x)) := by
  obtain ⟨⟨hx1, hx2⟩, h⟩ := h
  obtain ⟨x, hx3, hx4, hx5⟩ := x_nat hx1
  subst hx4
  have h : K (I 61 x) := by
    have e : ix (nI x) = x := nI_clamp hx3
    rw [e] at h; exact h
  intro G I' hl hb
  obtain ⟨l0, t0⟩ := hl.2.2.1
  obtain ⟨v, cap, -, hB⟩ := hl.lb (txL t0 rfl)
  refine Con.of (by decide +kernel) (by simp [Value.category]) (Nat.le_of_ble_eq_true rfl) (Or.inl rfl) (fun X hX hT _ => ?_)
  have hX : OK X D cJ4_charAt_5068e "java/lang/StringBuilder" 2 := hX
  have hR := RT.room hT
  change J X D 2 0 0 _ _ _ 0 [.ref 60, .int (nI x)] []
  have hx : x < l0.length := by
    rw [t0.cnt, nI_toInt hx3] at hx2
    omega
  have hlt := hB.ltr x hx
  have e61 := (t0.2.2 x hx).1
  have e : I' v x = I 61 x := hlt.1.trans e61.symm
  rw [← e] at h
  have q1 : 0 ≤ (I' v x).toInt := by rw [hlt.1]; exact hlt.2.1
  have q2 : (I' v x).toInt < 128 := by rw [hlt.1]; exact hlt.2.2
  refine r_aload_n hX dJ4_charAt_5068e_0 rfl ?_
  refine r_iload_n hX dJ4_charAt_5068e_1 rfl ?_
  refine r_SUi (As := [.int (nI x)]) hX hR (c_J5_charAt hB hx) lk_J4_329 hB.lt hB.sh (by decide) rfl dJ4_charAt_5068e_2 rfl rfl (Nat.le_of_ble_eq_true rfl) (by decide) (by first | decide | omega) (by first | decide | omega) ?_
  exact r_iret hX hT dJ4_charAt_5068e_5 (nar_c ⟨q1, by omega⟩) ⟨I, hl, rfl, _, rfl, ⟨q1, by omega⟩, rfl, h⟩
set_option maxRecDepth 100000 in
set_option maxHeartbeats 4000000 in
theorem w_J4_setLength_d00df {a1 : Int32} {K : IT → Prop} (h : f_J4_setLength_d00df a1 I K) : Con2 l D m_J4_setLength_d00df 8 [.ref 60, .int a1] 0 0 I L (Pv L K) := by
  obtain ⟨rfl, h⟩ := h
  intro G I' hl hb
  obtain ⟨l0, t0⟩ := hl.2.2.1
  obtain ⟨v, cap, hv, hB⟩ := hl.lb (txL t0 rfl)
  refine Con.of (by decide +kernel) (by simp [Value.category]) (Nat.le_of_ble_eq_true rfl) (Or.inl rfl) (fun X hX hT _ => ?_)
  have hX : OK X D cJ4_setLength_d00df "java/lang/StringBuilder" 2 := hX
  have hR := RT.room hT
  change J X D 2 0 0 _ _ _ 0 [.ref 60, .int (nI 0)] []
  refine r_aload_n hX dJ4_setLength_d00df_0 rfl ?_
  refine r_iload_n hX dJ4_setLength_d00df_1 rfl ?_
  refine r_SUq (As := [.int (nI 0)]) hX hR (c_J5_setLen0 hB) lk_J4_333 hB.lt hB.sh (by decide) rfl dJ4_setLength_d00df_2 rfl rfl (Nat.le_of_ble_eq_true rfl) (by decide) (by first | decide | omega) (by first | decide | omega) ?_
  rintro r I2 ⟨rfl, hB2⟩
  have t1 : LNB (up2 I 60 3 (nI 0)) [] := ⟨up2_same, by decide, fun j hj => absurd hj (Nat.not_lt_zero _)⟩
  exact r_vret hX hT dJ4_setLength_d00df_5 ⟨_, LB.lay hl (txL t0 rfl) hv hB2 (txL t1 rfl) (fun k h1 _ => up2_ne h1), rfl, rfl, h⟩
theorem APP.lay {G0 G : GT} {I0 I1 M0 I : IT} {b v0 : Nat} {l0 m : List Nat} {n' : Nat} {v' cap' : Nat} (hl : LAYB G0 I0 M0) (t : tobj I0 b 2 l0) (hv : G0.2.2 b 0 = some v0) (hB : LB b G ((G0, M0, v0), l0 ++ m) I v' cap' n') (t1 : tobj I1 b 2 (l0 ++ m)) (hI : ∀ k, k ≠ b → (b = 60 → k ≠ 61) → I1 k = I0 k) : LAYB G I1 I := LB.lay hl t hv hB t1 hI
set_option maxRecDepth 100000 in
set_option maxHeartbeats 4000000 in
theorem w_J4_append_cf468 {a1 : Int32} {K : Nat → IT → Prop} (ha1 : isC a1) (h : f_J4_append_cf468 a1 I K) : Con2 l D m_J4_append_cf468 8 [.ref 60, .int a1] 1 320 I L (Pa isSB L K) := by
  obtain ⟨⟨hx1, hx2⟩, hr, h⟩ := h
  obtain ⟨x, hx3, rfl, hx5⟩ := x_nat hx1
  intro G I' hl hb
  obtain ⟨l0, t0⟩ := hl.2.2.1
  obtain ⟨v, cap, hv, hB⟩ := hl.lb (txL t0 rfl)
  refine Con.of (by decide +kernel) (by simp [Value.category]) (Nat.le_of_ble_eq_true rfl) hb (fun X hX hT _ => ?_)
  have hX : OK X D cJ4_append_cf468 "java/lang/StringBuilder" 2 := hX
  have hR := RT.room hT
  change J X D 2 0 0 _ _ _ 0 [.ref 60, .int (nI x)] []
  have hn : l0.length + 1 ≤ 150 := by
    have h2 := hr.2
    rw [t0.cnt] at h2
    omega
  have hx8 : x < 128 := by omega
  have h1 : ∀ j, j < [x].length → [x].getD j 0 < 128 := fun j hj => by
    simp only [List.length_cons, List.length_nil] at hj
    rw [show j = 0 by omega]; exact hx8
  obtain ⟨t1, e1⟩ := t0.app (m := [x]) (by simpa using hn) h1
  refine r_aload_n hX dJ4_append_cf468_0 rfl ?_
  refine r_iload_n hX dJ4_append_cf468_1 rfl ?_
  refine r_callSU (As := [.int (nI x)]) hX hR (c_J5_appC hB (c0 := x) hx8 hn (hb.resolve_left (by decide))) APP.quiet lk_J4_50 hB.lt hB.sh (by decide) rfl dJ4_append_cf468_2 rfl rfl (Nat.le_of_ble_eq_true rfl) (by decide) (by decide) (by decide) ?_
  rintro r G2 I2 L2 ⟨e2, rfl, v2, cap2, hB2⟩
  cases e2
  refine r_pop hX dJ4_append_cf468_5 rfl ?_
  refine r_aload_n hX dJ4_append_cf468_6 rfl ?_
  exact r_aret hX hT dJ4_append_cf468_7 (Or.inl ⟨_, rfl⟩) ⟨_, LB.lay hl (txL t0 rfl) hv hB2 (txL t1 rfl) (fun k q1 q2 => e1 k q1 (q2 rfl)), rfl, 60, rfl, rfl, h⟩ (by decide) (by decide)
set_option maxRecDepth 100000 in
set_option maxHeartbeats 4000000 in
theorem w_J4_append_15ec4 {a1 : Nat} {K : Nat → IT → Prop} (ha1 : isStr a1) (h : f_J4_append_15ec4 a1 I K) : Con2 l D m_J4_append_15ec4 8 [.ref 60, .ref a1] 1 320 I L (Pa isSB L K) := by
  obtain ⟨hr, hln, h⟩ := h
  intro G I' hl hb
  obtain ⟨l0, t0⟩ := hl.2.2.1
  obtain ⟨v, cap, hv, hB⟩ := hl.lb (txL t0 rfl)
  obtain ⟨w, hs⟩ := hl.stb (txL t0 rfl) hv (Or.inl ⟨ha1, rfl⟩)
  have hn : l0.length + (strT a1).length ≤ 150 := by
    have h2 := hr.2
    rw [t0.cnt] at h2
    omega
  obtain ⟨t1, e1⟩ := t0.app (m := strT a1) hn hs.1.sm.2
  refine Con.mono (c_J4_appS hB hs hn (hb.resolve_left (by decide))) ?_
  rintro r G2 I2 L2 ⟨e2, rfl, v2, cap2, hB2⟩
  exact ⟨_, LB.lay hl (txL t0 rfl) hv hB2 (txL t1 rfl) (fun k q1 q2 => e1 k q1 (q2 rfl)), rfl, 60, e2, rfl, h⟩
set_option maxRecDepth 100000 in
set_option maxHeartbeats 4000000 in
theorem w_J4_append_bf812 {a1 : Int32} {K : Nat → IT → Prop} (h : f_J4_append_bf812 a1 I K) : Con2 l D m_J4_append_bf812 8 [.ref 60, .int a1] 1 320 I L (Pa isSB L K) := by
  obtain ⟨hx1, hr, h⟩ := h
  obtain ⟨x, hx3, rfl, hx5⟩ := x_nat hx1
  have h : K 60 (sbApp (digs 10 x) I) := by
    have e : ix (nI x) = x := nI_clamp hx3
    rw [e] at h; exact h
  intro G I' hl hb
  obtain ⟨l0, t0⟩ := hl.2.2.1
  obtain ⟨v, cap, hv, hB⟩ := hl.lb (txL t0 rfl)
  have hn : l0.length + 10 ≤ 150 := by
    have h2 := hr.2
    rw [t0.cnt] at h2
    omega
  have hd := dg_le10 hx3
  obtain ⟨t1, e1⟩ := t0.app (m := digs 10 x) (by omega) (dg_128 10 x)
  refine Con.mono (c_J4_appI hB hx3 hn (hb.resolve_left (by decide))) ?_
  rintro r G2 I2 L2 ⟨e2, rfl, v2, cap2, hB2⟩
  exact ⟨_, LB.lay hl (txL t0 rfl) hv hB2 (txL t1 rfl) (fun k q1 q2 => e1 k q1 (q2 rfl)), rfl, 60, e2, rfl, h⟩
end JdkW
section QT
variable {X : XT} {D : DT} {cc : ByteArray} {own : String} {nL c w : Nat} {I : IT} {L : LT} {pc : Nat} {ls st : List Value} {l0 : Launch} {d mc ms : Nat}
theorem q_T_appS (hX : OK X D cc own nL) (hR : Room2 X l0 D d mc ms) {idx a s : Nat} {K : Nat → IT → Prop} (ha : isDy a) (hs : isTx s) (lk : LkV own idx "java/lang/StringBuilder" m_J4_append_15ec4 1) (dd : decode cc pc = .ok (.invokevirtual idx, 3)) (hcat : (st.map fun v => v.category).sum ≤ 8) (hd : 8 + 1 ≤ d) (h1 : c + 1 ≤ mc) (h2 : w + 320 ≤ ms) (h : f_T_appS a s I K) (k : ∀ I2, K a I2 → J2 X D nL (c + 1) (w + 320) I2 L (pc + 3) ls (.ref a :: st)) : J2 X D nL c w I L pc ls (.ref s :: .ref a :: st) := by
  obtain ⟨l, m, tl, tm, hlen, hK⟩ := h
  intro G I' hl
  have ta : tobj I a 2 l := Or.inr ⟨ha, Or.inr rfl, tl⟩
  obtain ⟨v, cap, hv, hB⟩ := hl.lb ta
  obtain ⟨w1, hs1⟩ := hl.stb ta hv tm
  refine J.bound hR h1 (fun hbd => ?_)
  refine r_callV (As := [.ref s]) hX hR (c_J4_appS hB hs1 hlen hbd) lk hB.rc dd rfl rfl hcat hd h1 h2 ?_ (fun E G2 I2 L2 q => absurd q (APP.quiet _ _ _ _))
  rintro v0 G2 I2 L2 ⟨e, rfl, v2, cap2, hB2⟩
  cases e
  have h150 : (l ++ m).length ≤ 150 := by rw [List.length_append]; exact hlen
  have h128 : ∀ j, j < (l ++ m).length → (l ++ m).getD j 0 < 128 := fun j hj => (hB2.ltr0 j (by rw [List.length_append] at hj; exact hj)).2
  exact k _ hK G2 I2 (LB.lay hl ta hv hB2 (Or.inr ⟨ha, Or.inr rfl, setT_s h150 h128⟩) (fun q hq _ => setT_n hq))
theorem q_T_appI (hX : OK X D cc own nL) (hR : Room2 X l0 D d mc ms) {idx a : Nat} {x : Int32} {K : Nat → IT → Prop} (ha : isDy a) (lk : LkV own idx "java/lang/StringBuilder" m_J4_append_bf812 1) (dd : decode cc pc = .ok (.invokevirtual idx, 3)) (hcat : (st.map fun v => v.category).sum ≤ 8) (hd : 8 + 1 ≤ d) (h1 : c + 1 ≤ mc) (h2 : w + 320 ≤ ms) (h : f_T_appI a x I K) (k : ∀ I2, K a I2 → J2 X D nL (c + 1) (w + 320) I2 L (pc + 3) ls (.ref a :: st)) : J2 X D nL c w I L pc ls (.int x :: .ref a :: st) := by
  obtain ⟨l, tl, hx1, hlen, hK⟩ := h
  obtain ⟨n, hx3, rfl, hx5⟩ := x_nat hx1
  have e : ix (nI n) = n := nI_clamp hx3
  rw [e] at hK
  intro G I' hl
  have ta : tobj I a 2 l := Or.inr ⟨ha, Or.inr rfl, tl⟩
  obtain ⟨v, cap, hv, hB⟩ := hl.lb ta
  refine J.bound hR h1 (fun hbd => ?_)
  refine r_callV (As := [.int (nI n)]) hX hR (c_J4_appI hB hx3 hlen hbd) lk hB.rc dd rfl rfl hcat hd h1 h2 ?_ (fun E G2 I2 L2 q => absurd q (APP.quiet _ _ _ _))
  rintro v0 G2 I2 L2 ⟨e, rfl, v2, cap2, hB2⟩
  cases e
  have h150 : (l ++ digs 10 n).length ≤ 150 := by
    have := dg_le10 hx3
    rw [List.length_append]; omega
  have h128 : ∀ j, j < (l ++ digs 10 n).length → (l ++ digs 10 n).getD j 0 < 128 := fun j hj => (hB2.ltr0 j (by rw [List.length_append] at hj; exact hj)).2
  exact k _ hK G2 I2 (LB.lay hl ta hv hB2 (Or.inr ⟨ha, Or.inr rfl, setT_s h150 h128⟩) (fun q hq _ => setT_n hq))
theorem q_T_new (hX : OK X D cc own nL) (hR : Room2 X l0 D d mc ms) {i1 i2 : Nat} {K : Nat → IT → Prop} (nw : NW own i1 1 4) (lk : LkI own i2 m_J4_init_da8c8 0) (d0 : decode cc pc = .ok (.new i1, 3)) (d3 : decode cc (pc + 3) = .ok (.dup, 1)) (d4 : decode cc (pc + 4) = .ok (.invokespecial i2, 3)) (hcat : (st.map fun v => v.category).sum ≤ 6) (hd : 3 + 1 ≤ d) (h1 : c + 2 ≤ mc) (h2 : w + 20 ≤ ms) (h : f_T_new I K) (k : ∀ a I2, isDy a → K a I2 → J2 X D nL (c + 2) (w + 20) I2 L (pc + 7) ls (.ref a :: st)) : J2 X D nL c w I L pc ls st := by
  intro G I' hl
  refine J.bound hR h1 (fun hbd => ?_)
  have ne : ∀ q, q < G.1 → q ≠ G.1 := fun q hq => Nat.ne_of_lt hq
  have hG : 190 ≤ G.1 := hl.1.1
  have hdy : isDy G.1 := ⟨hG, by omega⟩
  have hfree : free I G.1 := fun k0 l hk t => by
    have := (hl.2.2.2.1 G.1 k0 l (Or.inr ⟨hdy, hk, t⟩)).1
    omega
  refine r_newO hX hR nw (by decide) d0 (by omega) (by omega) (by omega) ?_
  refine r_dup hX d3 rfl ?_
  refine r_callI (y := yJ4_init_da8c8) (bytes := cJ4_init_da8c8) (maxL := 1) (As := []) (st := .ref G.1 :: st) hX hR (c_J4_init (a := G.1) (show G.1 < G.1 + 1 by omega) (if_pos rfl) (show G.1 + 1 + 1 < 1000000 by omega)) MKB.quiet lk d4 rfl rfl (by rw [List.map_cons, List.sum_cons]; show 1 + _ ≤ 8; omega) (by omega) (by omega) (by omega) ?_
  rintro r G2 I2 L2 ⟨e1, rfl, rfl, rfl⟩
  cases e1
  have hz : ∀ q, q < G.1 → up2 (iNew (gNew G 1 0) (iNew G I')) G.1 1 0 q = I' q := fun q hq => by
    rw [up2_ne (ne q hq)]
    show (if q = G.1 + 1 then (fun _ => 0) else iNew G I' q) = _
    rw [if_neg (by omega)]
    exact if_neg (ne q hq)
  have hob : OBJ (gPut (gNew (gNew G 1 0) 20 16) G.1 0 (some (G.1 + 1))) (up2 (iNew (gNew G 1 0) (iNew G I')) G.1 1 0) G.1 2 [] := by
    refine ⟨by show G.1 < G.1 + 1 + 1; omega, ?_, by decide, fun j hj => absurd hj (Nat.not_lt_zero _), G.1 + 1, 16, up2_same, by show G.1 + 1 < G.1 + 1 + 1; omega, Or.inr (by omega), ?_, up2_same, fun _ => ?_, fun q => absurd q (by decide), Nat.zero_le _, by decide, fun j hj => ?_, fun j hj => absurd hj (Nat.not_lt_zero _)⟩
    · show (if G.1 = G.1 + 1 then (20, 16) else if G.1 = G.1 then (1, 0) else G.2.1 G.1) = _
      rw [if_neg (by omega), if_pos rfl]; rfl
    · show (if G.1 + 1 = G.1 + 1 then (20, 16) else _) = _
      rw [if_pos rfl]
    · rw [up2_nej (by decide)]
      show (if G.1 = G.1 + 1 then (fun _ => 0) else iNew G I' G.1) 3 = _
      rw [if_neg (by omega)]
      show (if G.1 = G.1 then (fun _ => 0) else I' G.1) 3 = _
      rw [if_pos rfl]; rfl
    · rw [up2_ne (by omega)]
      have e0 : iNew (gNew G 1 0) (iNew G I') (G.1 + 1) j = 0 := congrFun (if_pos rfl) j
      rw [e0]
      decide
  refine k G.1 (setT I G.1 2 []) hdy (h G.1 hdy hfree) _ _ (LAYB.mk hl (Nat.le_refl _) (by show G.1 ≤ G.1 + 1 + 1; omega) (fun q hq => ?_) (fun q hq => ?_) hz hob (fun v0 hv0 => ?_) (Or.inr ⟨hdy, Or.inr rfl, setT_s (by decide) (fun j hj => absurd hj (Nat.not_lt_zero _))⟩) (fun q hq => setT_n hq))
  · show (if q = G.1 + 1 then (20, 16) else if q = G.1 then (1, 0) else G.2.1 q) = _
    rw [if_neg (by omega), if_neg (by omega)]
  · funext j
    show up2 (gNew (gNew G 1 0) 20 16).2.2 G.1 0 (some (G.1 + 1)) q j = _
    rw [up2_nea (ne q hq)]
    show (if q = G.1 + 1 then (fun _ => none) else if q = G.1 then (fun _ => none) else G.2.2 q) j = _
    rw [if_neg (by omega), if_neg (by omega)]
  · have e2 : (gPut (gNew (gNew G 1 0) 20 16) G.1 0 (some (G.1 + 1))).2.2 G.1 0 = some (G.1 + 1) := up2_same
    have e3 : some v0 = some (G.1 + 1) := hv0.symm.trans e2
    cases e3
    omega
theorem q_T_str (hX : OK X D cc own nL) (hR : Room2 X l0 D d mc ms) {idx a : Nat} {K : Nat → IT → Prop} (ha : isDy a) (lk : LkV own idx "java/lang/StringBuilder" m_J4_toString_0e30d 0) (dd : decode cc pc = .ok (.invokevirtual idx, 3)) (hcat : (st.map fun v => v.category).sum ≤ 8) (hd : 11 + 1 ≤ d) (h1 : c + 2 ≤ mc) (h2 : w + 170 ≤ ms) (h : f_T_str a I K) (k : ∀ s I2, isDy s → K s I2 → J2 X D nL (c + 2) (w + 170) I2 L (pc + 3) ls (.ref s :: st)) : J2 X D nL c w I L pc ls (.ref a :: st) := by
  obtain ⟨l, tl, hK⟩ := h
  intro G I' hl
  have ta : tobj I a 2 l := Or.inr ⟨ha, Or.inr rfl, tl⟩
  obtain ⟨v, cap, hv, hB⟩ := hl.lb ta
  have hG : 190 ≤ G.1 := hl.1.1
  have hvl := hB.vlt
  have ne : ∀ q, q < G.1 → q ≠ G.1 := fun q hq => Nat.ne_of_lt hq
  refine J.bound hR h1 (fun hbd => ?_)
  have hdy : isDy G.1 := ⟨hG, by omega⟩
  have hfree : free I G.1 := fun k0 l hk t => by
    have := (hl.2.2.2.1 G.1 k0 l (Or.inr ⟨hdy, hk, t⟩)).1
    omega
  refine r_callV (As := []) hX hR (c_J4_toS hB hbd) lk hB.rc dd rfl rfl hcat hd h1 h2 ?_ (fun E G2 I2 L2 q => absurd q (TOS.quiet _ _ _ _))
  rintro v0 G2 I2 L2 ⟨e, rfl, rfl, e4, e5, e6⟩
  cases e
  have hob : OBJ (gPut (gNew (gNew G 0 0) 20 l.length) G.1 0 (some (G.1 + 1))) I2 G.1 1 l := by
    refine ⟨by show G.1 < G.1 + 1 + 1; omega, ?_, hB.n150, fun j hj => (hB.ltr0 j hj).2, G.1 + 1, l.length, up2_same, by show G.1 + 1 < G.1 + 1 + 1; omega, Or.inr (by omega), ?_, e5, fun q => absurd q (by decide), fun _ => rfl, Nat.le_refl _, by have := hB.n150; omega, fun j hj => ?_, fun j hj => ?_⟩
    · show (if G.1 = G.1 + 1 then (20, l.length) else if G.1 = G.1 then (0, 0) else G.2.1 G.1) = _
      rw [if_neg (by omega), if_pos rfl]; rfl
    · show (if G.1 + 1 = G.1 + 1 then (20, l.length) else _) = _
      rw [if_pos rfl]
    · rw [e6 j hj]
      have := hB.ltr j hj
      rw [this.1]
      omega
    · rw [e6 j hj]; exact (hB.ltr0 j hj).1
  refine k G.1 (setT I G.1 1 l) hdy (hK G.1 hdy hfree) _ _ (LAYB.mk hl (Nat.le_refl _) (by show G.1 ≤ G.1 + 1 + 1; omega) (fun q hq => ?_) (fun q hq => ?_) e4 hob (fun v0 hv0 => ?_) (Or.inr ⟨hdy, Or.inl rfl, setT_s hB.n150 (fun j hj => (hB.ltr0 j hj).2)⟩) (fun q hq => setT_n hq))
  · show (if q = G.1 + 1 then (20, l.length) else if q = G.1 then (0, 0) else G.2.1 q) = _
    rw [if_neg (by omega), if_neg (by omega)]
  · funext j
    show up2 (gNew (gNew G 0 0) 20 l.length).2.2 G.1 0 (some (G.1 + 1)) q j = _
    rw [up2_nea (ne q hq)]
    show (if q = G.1 + 1 then (fun _ => none) else if q = G.1 then (fun _ => none) else G.2.2 q) j = _
    rw [if_neg (by omega), if_neg (by omega)]
  · have e2 : (gPut (gNew (gNew G 0 0) 20 l.length) G.1 0 (some (G.1 + 1))).2.2 G.1 0 = some (G.1 + 1) := up2_same
    have e3 : some v0 = some (G.1 + 1) := hv0.symm.trans e2
    cases e3
    omega
theorem q_T_length (hX : OK X D cc own nL) (hR : Room2 X l0 D d mc ms) {idx s : Nat} {K : Int32 → Prop} (hs : isTx s) (lk : LkV own idx "java/lang/String" m_J0_length_8abf5 0) (dd : decode cc pc = .ok (.invokevirtual idx, 3)) (hcat : (st.map fun v => v.category).sum ≤ 8) (hd : 2 + 1 ≤ d) (h1 : c ≤ mc) (h2 : w ≤ ms) (h : f_T_length s I K) (k : ∀ x, K x → J2 X D nL c w I L (pc + 3) ls (.int x :: st)) : J2 X D nL c w I L pc ls (.ref s :: st) := by
  obtain ⟨l, tl, hK⟩ := h
  intro G I' hl
  obtain ⟨w1, hs1⟩ := hl.stg tl
  exact r_Vi (As := []) hX hR (c_J0_length hs1) lk hs1.rc dd rfl rfl hcat hd h1 h2 (k _ hK G I' hl)
theorem q_T_charAt (hX : OK X D cc own nL) (hR : Room2 X l0 D d mc ms) {idx s : Nat} {x : Int32} {K : Int32 → Prop} (hs : isTx s) (lk : LkV own idx "java/lang/String" m_J0_charAt_5068e 1) (dd : decode cc pc = .ok (.invokevirtual idx, 3)) (hcat : (st.map fun v => v.category).sum ≤ 8) (hd : 8 + 1 ≤ d) (h1 : c ≤ mc) (h2 : w ≤ ms) (h : f_T_charAt s x I K) (k : ∀ y, isC y → K y → J2 X D nL c w I L (pc + 3) ls (.int y :: st)) : J2 X D nL c w I L pc ls (.int x :: .ref s :: st) := by
  obtain ⟨l, tl, hi, hK⟩ := h
  intro G I' hl
  obtain ⟨w1, hs1⟩ := hl.stg tl
  have hx := inr_lt hi
  have e1 := inr_e hi
  generalize ix x = n at hx e1 hK
  subst e1
  have hc := hs1.sm.2 n hx
  exact r_Vi (As := [.int (nI n)]) hX hR (c_J0_charAt hs1 hx) lk hs1.rc dd rfl rfl hcat hd h1 h2 (k _ (isC_n (by omega)) hK G I' hl)
theorem q_T_maxF (hX : OK X D cc own nL) (hR : Room2 X l0 D d mc ms) {idx : Nat} {x y : UInt32} {K : UInt32 → Prop} (lk : LkS own idx m_J9_max_e70c8 2) (dd : decode cc pc = .ok (.invokestatic idx, 3)) (hcat : (st.map fun v => v.category).sum ≤ 8) (hd : 1 ≤ d) (h1 : c ≤ mc) (h2 : w ≤ ms) (h : f_T_maxF x y I K) (k : ∀ z, K z → J2 X D nL c w I L (pc + 3) ls (.float z :: st)) : J2 X D nL c w I L pc ls (.float y :: .float x :: st) := by
  obtain ⟨⟨hx, hy⟩, hK⟩ := h
  intro G I' hl
  exact r_maxF hX hR lk.1 lk.2.1 lk.2.2.1 lk.2.2.2.1 hx hy dd hcat hd (k _ hK G _ hl)
end QT
