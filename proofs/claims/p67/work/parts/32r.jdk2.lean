/-! ===== the line's own methods, by their bytes ===== -/
section JRules2
variable {X : XT} {D : DT} {cc : ByteArray} {own : String} {nL c w : Nat} {G : GT} {I : IT} {L : LT} {pc : Nat} {ls st stk : List Value} {l0 : Launch} {d mc ms d' : Nat}
theorem r_SUi (hX : OK X D cc own nL) (hroom : Room2 X l0 D d mc ms) {M : MD} {idx n b ci z : Nat} {r : vw_C} {As : List Value} {v : Int32} (hM : Con l0 D M d' (.ref b :: As) 0 0 G I L (PqI G I L v)) (lk : LkSU own idx M n) (hb : b < G.1) (hsh : G.2.1 b = (ci, z)) (hc : ci < 20) (hr : vwCl[ci]? = some r) (dd : decode cc pc = .ok (.invokespecial idx, 3)) (hn : As.length = n) (hs : stk = As.reverse ++ .ref b :: st) (hcat : (st.map fun v => v.category).sum ≤ 8) (hd : d' + 1 ≤ d) (h1 : c ≤ mc) (h2 : w ≤ ms) (k : J X D nL c w G I L (pc + 3) ls (.int v :: st)) : J X D nL c w G I L pc ls stk :=
  r_SUq hX hroom hM lk hb hsh hc hr dd hn hs hcat hd h1 h2 (fun r I' h => by obtain ⟨rfl, rfl⟩ := h; exact k)
theorem r_ifnn (hX : OK X D cc own nL) {x : Nat} {off : Int} {tgt : Nat} (d : decode cc pc = .ok (.ifnonnull off, 3)) (ht : (pc : Int) + off = (tgt : Int)) (k : J X D nL c w G I L tgt ls st) : J X D nL c w G I L pc ls (.ref x :: st) := by
  obtain ⟨p, l, e, R, s, m, args, below, meth, c0, Q⟩ := X
  intro H locs lsA hR hz hl hL
  exact lv_ifnonnull hX.1 hX.2.1 d ht (k H locs lsA hR hz hl hL)
end JRules2
theorem sub_le0 {a b : Nat} (h : a ≤ b) (hb : b < 2 ^ 31) : nI a - nI b ≤ 0 := by
  have e : (nI a - nI b).toInt = (a : Int) - b := by
    rw [Int32.toInt_sub, nI_toInt (by omega), nI_toInt hb]
    apply Int.bmod_eq_of_le <;> omega
  rw [Int32.le_iff_toInt_le, e]
  show (a : Int) - b ≤ 0
  omega
theorem big_lt {k : Nat} (h : k < 100000) : ¬ (2147483639 : Int32) < nI k := by
  rw [Int32.lt_iff_toInt_lt, nI_toInt (by omega)]
  have : (2147483639 : Int32).toInt = 2147483639 := by decide
  omega
theorem big_ne {k : Nat} (h : k < 100000) : ¬ nI k = (2147483647 : Int32) := by
  intro q
  have q2 := congrArg Int32.toInt q
  rw [nI_toInt (by omega)] at q2
  have : (2147483647 : Int32).toInt = 2147483647 := by decide
  omega
theorem max_e {g p t : Nat} (ht : (if g < p then p else g) = t) (hg : g < 2 ^ 31) (hp : p < 2 ^ 31) : (if nI g < nI p then nI p else nI g) = nI t := by
  subst ht
  by_cases h : g < p
  · rw [if_pos h, if_pos (nI_lt h hp)]
  · rw [if_neg h, if_neg (nI_nlt (by omega) hg)]
def newC (m q : Nat) : Nat := m + (if q - m < m + 2 then m + 2 else q - m)
theorem newC_b {m q : Nat} (h : m < q) (hq : q ≤ 160) : q ≤ newC m q ∧ newC m q ≤ 320 ∧ m < newC m q := by
  unfold newC
  split <;> omega
theorem iNew_n {G : GT} {I : IT} {k : Nat} (h : k ≠ G.1) : iNew G I k = I k := if_neg h
/-- a new array behind it -/
theorem LB.fresh {b : Nat} {G : GT} {Z : ZT} {I : IT} {v cap n N : Nat} (h : LB b G Z I v cap n) (h1 : cap ≤ N) (h2 : N ≤ 320) : LB b (gPut (gNew G 20 N) b 0 (some G.1)) Z (up1 (iNew G I) G.1 (va_cpy (iNew G I v) (iNew G I G.1) 0 0 cap)) G.1 N n := by
  obtain ⟨a1, a2, a3, a4, a5, a6⟩ := h.1
  have hb := h.lt
  have hlt := h.vlt
  have hG : 190 ≤ G.1 := Nat.le_trans h.2.1.1 a2
  have hI : ∀ k, k < G.1 → up1 (iNew G I) G.1 (va_cpy (iNew G I v) (iNew G I G.1) 0 0 cap) k = I k := fun k hk => by
    rw [up1_n (Nat.ne_of_lt hk)]
    exact if_neg (Nat.ne_of_lt hk)
  have hv : iNew G I v = I v := if_neg (Nat.ne_of_lt hlt)
  have h0 : iNew G I G.1 = fun _ => 0 := if_pos rfl
  have hval : ∀ j, up1 (iNew G I) G.1 (va_cpy (iNew G I v) (iNew G I G.1) 0 0 cap) G.1 j = if j < cap then I v j else 0 := by
    intro j
    rw [up1_s, hv, h0]
    unfold va_cpy
    by_cases hj : j < cap
    · rw [if_pos (by omega), if_pos hj]
      congr 1; omega
    · rw [if_neg (by omega), if_neg hj]
  refine ⟨⟨a1, by show _ ≤ G.1 + 1; omega, fun k hk => ?_, fun k hk e => ?_, fun k hk e1 e2 => ?_, Or.inr a2⟩, ⟨h.2.1.1, Or.inr hG, ?_⟩, ?_, ?_, ?_, ?_, ?_, h.len, ?_, h2, h.n150, fun j hj => ?_, fun j hj => ?_⟩
  · show (if k = G.1 then (20, N) else G.2.1 k) = _
    rw [if_neg (by omega)]
    exact a3 k hk
  · funext j
    show up2 (gNew G 20 N).2.2 b 0 (some G.1) k j = _
    rw [up2_nea e]
    show (if k = G.1 then (fun _ => none) else G.2.2 k) j = _
    rw [if_neg (by omega), a4 k hk e]
  · rw [hI k (by omega)]; exact a5 k hk e1 e2
  · show (if b = G.1 then (20, N) else G.2.1 b) = _
    rw [if_neg (by omega)]; exact h.sh
  · show up2 (gNew G 20 N).2.2 b 0 (some G.1) b 0 = _
    exact up2_same
  · show G.1 < G.1 + 1; omega
  · show (if G.1 = G.1 then (20, N) else G.2.1 G.1) = _
    exact if_pos rfl
  · rw [hI b hb]; exact h.cod
  · rw [hI b hb]; exact h.cnt
  · have := h.le; omega
  · rw [hval]
    by_cases q : j < cap
    · rw [if_pos q]; exact h.byt j q
    · rw [if_neg q]; decide
  · have := h.le
    rw [hval, if_pos (by omega)]
    exact h.ltr0 j hj
theorem LB.set0 {b : Nat} {G : GT} {Z : ZT} {I M : IT} {v cap n : Nat} (h : LB b G Z I v cap n) (e1 : ∀ k, k ≠ b → M k = I k) (e2 : M b 1 = 0) (e3 : M b 3 = nI 0) : LB b G (Z.1, []) M v cap 0 := by
  have hv := h.v60
  obtain ⟨a1, a2, a3, a4, a5, a6⟩ := h.1
  refine ⟨⟨a1, a2, a3, a4, fun k hk q1 q2 => ?_, a6⟩, h.2.1, h.val, h.vlt, h.vsh, e2, e3, rfl, Nat.zero_le _, h.c320, by omega, fun j hj => ?_, fun j hj => by omega⟩
  · rw [e1 k q1]; exact a5 k hk q1 q2
  · rw [e1 v hv]; exact h.byt j hj
section JdkB
variable {l : Launch} {D : DT} {G : GT} {I0 : ZT} {I : IT} {b : Nat} {L : LT} {v cap n : Nat}
set_option maxRecDepth 100000 in
set_option maxHeartbeats 4000000 in
theorem c_J5_isL (hB : LB b G I0 I v cap n) : Con l D m_J5_isLatin1_aae02 1 [.ref b] 0 0 G I L (PqI G I L (nI 1)) := by
  refine Con.of (by decide +kernel) (by simp [Value.category]) (Nat.le_of_ble_eq_true rfl) (Or.inl rfl) (fun X hX hT _ => ?_)
  have hX : OK X D cJ5_isLatin1_aae02 "java/lang/AbstractStringBuilder" 1 := hX
  have hR := RT.room hT
  change J X D 1 0 0 _ _ _ 0 [.ref b] []
  refine r_gets hX hq_cs gs_J5_18 dJ5_isLatin1_aae02_0 ?_
  refine r_if_eq hX dJ5_isLatin1_aae02_3 (tgt := 17) (by decide) (fun h => absurd h one_ne) (fun _ => ?_)
  refine r_aload_n hX dJ5_isLatin1_aae02_6 rfl ?_
  refine r_getX hX gf_J5_22 rfl dJ5_isLatin1_aae02_7 hB.lt hB.sh hB.cod ?_
  refine r_if_ne hX dJ5_isLatin1_aae02_10 (tgt := 17) (by decide) (fun h => absurd rfl h) (fun _ => ?_)
  refine r_iconst hX dJ5_isLatin1_aae02_13 (v := nI 1) (by decide) ?_
  refine r_goto hX dJ5_isLatin1_aae02_14 (tgt := 18) (by decide) ?_
  exact r_iretI hX hT dJ5_isLatin1_aae02_18 (by first | rfl | decide) (by decide) (by decide)
set_option maxRecDepth 100000 in
set_option maxHeartbeats 4000000 in
theorem c_J5_length (hB : LB b G I0 I v cap n) : Con l D m_J5_length_8abf5 1 [.ref b] 0 0 G I L (PqI G I L (nI n)) := by
  refine Con.of (by decide +kernel) (by simp [Value.category]) (Nat.le_of_ble_eq_true rfl) (Or.inl rfl) (fun X hX hT _ => ?_)
  have hX : OK X D cJ5_length_8abf5 "java/lang/AbstractStringBuilder" 1 := hX
  have hR := RT.room hT
  change J X D 1 0 0 _ _ _ 0 [.ref b] []
  refine r_aload_n hX dJ5_length_8abf5_0 rfl ?_
  refine r_getX hX gf_J5_79 rfl dJ5_length_8abf5_1 hB.lt hB.sh hB.cnt ?_
  exact r_iretI hX hT dJ5_length_8abf5_4 (by first | rfl | decide) (by decide) (by decide)
set_option maxRecDepth 100000 in
set_option maxHeartbeats 4000000 in
theorem c_J5_charAt (hB : LB b G I0 I v cap n) {x : Nat} (hx : x < n) : Con l D m_J5_charAt_5068e 4 [.ref b, .int (nI x)] 0 0 G I L (PqI G I L (I v x)) := by
  refine Con.of (by decide +kernel) (by simp [Value.category]) (Nat.le_of_ble_eq_true rfl) (Or.inl rfl) (fun X hX hT _ => ?_)
  have hX : OK X D cJ5_charAt_5068e "java/lang/AbstractStringBuilder" 5 := hX
  have hR := RT.room hT
  change J X D 5 0 0 _ _ _ 0 [.ref b, .int (nI x), .retAddr 0, .retAddr 0, .retAddr 0] []
  have hle := hB.le
  have hcp := hB.c320
  have hl := hB.ltr x hx
  have hc1 : 0 ≤ (I v x).toInt := by rw [hl.1]; exact hl.2.1
  have hc2 : (I v x).toInt < 128 := by rw [hl.1]; exact hl.2.2
  refine r_aload_n hX dJ5_charAt_5068e_0 rfl ?_
  refine r_getX hX gf_J5_22 rfl dJ5_charAt_5068e_1 hB.lt hB.sh hB.cod ?_
  refine r_istore_n hX dJ5_charAt_5068e_4 (by decide) rfl ?_
  refine r_aload_n hX dJ5_charAt_5068e_5 rfl ?_
  refine r_getR hX gf_J5_15 rfl dJ5_charAt_5068e_6 hB.lt hB.sh hB.val ?_
  refine r_astore_n hX dJ5_charAt_5068e_9 (by decide) rfl ?_
  refine r_aload_n hX dJ5_charAt_5068e_10 rfl ?_
  refine r_getX hX gf_J5_79 rfl dJ5_charAt_5068e_11 hB.lt hB.sh hB.cnt ?_
  refine r_aload_n hX dJ5_charAt_5068e_14 rfl ?_
  refine r_alen (t := 0) hX dJ5_charAt_5068e_15 hB.vlt hB.vsh (by decide) ?_
  refine r_iload_n hX dJ5_charAt_5068e_16 rfl ?_
  refine r_ishr hX dJ5_charAt_5068e_17 ?_
  rw [sh0r]
  refine r_min hX hR mm_J5_138 w_min1 w_math w_min2 dJ5_charAt_5068e_18 (Nat.le_of_ble_eq_true rfl) (by decide) (by decide) (by decide) ?_
  rw [if_neg (nI_nlt hle (by omega))]
  refine r_istore hX dJ5_charAt_5068e_21 (by decide) rfl ?_
  refine r_iload_n hX dJ5_charAt_5068e_23 rfl ?_
  refine r_iload hX dJ5_charAt_5068e_24 rfl ?_
  refine r_Sv (As := [.int (nI x), .int (nI n)]) hX hR (c_J0_check hx (by omega)) lk_J5_144 dJ5_charAt_5068e_26 rfl rfl (Nat.le_of_ble_eq_true rfl) (by decide) (by first | decide | omega) (by first | decide | omega) ?_
  refine r_iload_n hX dJ5_charAt_5068e_29 rfl ?_
  refine r_if_ne hX dJ5_charAt_5068e_30 (tgt := 42) (by decide) (fun h => absurd rfl h) (fun _ => ?_)
  refine r_aload_n hX dJ5_charAt_5068e_33 rfl ?_
  refine r_iload_n hX dJ5_charAt_5068e_34 rfl ?_
  refine r_bald hX dJ5_charAt_5068e_35 hB.vlt hB.vsh rfl (Nat.lt_of_lt_of_le hx hle) (by omega) ?_
  refine r_sipush hX dJ5_charAt_5068e_36 (v := nI 255) (by decide) ?_
  refine r_iand hX dJ5_charAt_5068e_39 ?_
  refine r_i2c hX dJ5_charAt_5068e_40 ?_
  rw [ch_x hc1 hc2]
  exact r_iretI hX hT dJ5_charAt_5068e_41 (nar_c ⟨hc1, by omega⟩) (by decide) (by decide)
set_option maxRecDepth 100000 in
set_option maxHeartbeats 4000000 in
theorem c_J8_newLength {m g p t : Nat} (ht : (if g < p then p else g) = t) (h0 : 0 < m + t) (h1 : m + t < 100000) (hg : g < 2 ^ 31) (hp : p < 2 ^ 31) : Con l D m_J8_newLength_cabcc 3 [.int (nI m), .int (nI g), .int (nI p)] 0 0 G I L (PqI G I L (nI (m + t))) := by
  refine Con.of (by decide +kernel) (by simp [Value.category]) (Nat.le_of_ble_eq_true rfl) (Or.inl rfl) (fun X hX hT _ => ?_)
  have hX : OK X D cJ8_newLength_cabcc "jdk/internal/util/ArraysSupport" 4 := hX
  have hR := RT.room hT
  change J X D 4 0 0 _ _ _ 0 [.int (nI m), .int (nI g), .int (nI p), .retAddr 0] []
  refine r_iload_n hX dJ8_newLength_cabcc_0 rfl ?_
  refine r_iload_n hX dJ8_newLength_cabcc_1 rfl ?_
  refine r_iload_n hX dJ8_newLength_cabcc_2 rfl ?_
  refine r_max hX hR mm_J8_194 w_max1 w_math w_max2 dJ8_newLength_cabcc_3 (Nat.le_of_ble_eq_true rfl) (by decide) (by decide) (by decide) ?_
  rw [max_e ht hg hp]
  refine r_iadd hX dJ8_newLength_cabcc_6 ?_
  rw [nI_add]
  refine r_istore_n hX dJ8_newLength_cabcc_7 (by decide) rfl ?_
  refine r_iconst hX dJ8_newLength_cabcc_8 (v := nI 0) (by decide) ?_
  refine r_iload_n hX dJ8_newLength_cabcc_9 rfl ?_
  refine r_icmp_ge hX dJ8_newLength_cabcc_10 (tgt := 21) (by decide) (fun h => absurd h (nI_ge h0 (by omega))) (fun _ => ?_)
  refine r_iload_n hX dJ8_newLength_cabcc_13 rfl ?_
  refine r_ldc hX kc_J8_200 dJ8_newLength_cabcc_14 ?_
  refine r_icmp_gt hX dJ8_newLength_cabcc_16 (tgt := 21) (by decide) (fun h => absurd h (big_lt h1)) (fun _ => ?_)
  refine r_iload_n hX dJ8_newLength_cabcc_19 rfl ?_
  exact r_iretI hX hT dJ8_newLength_cabcc_20 (by first | rfl | decide) (by decide) (by decide)
set_option maxRecDepth 100000 in
set_option maxHeartbeats 4000000 in
theorem c_J5_newCap (hB : LB b G I0 I v cap n) {q : Nat} (hq : cap < q) (hq2 : q ≤ 160) : Con l D m_J5_newCapacity_0f7a4 4 [.ref b, .int (nI q)] 0 0 G I L (PqI G I L (nI (newC cap q))) := by
  refine Con.of (by decide +kernel) (by simp [Value.category]) (Nat.le_of_ble_eq_true rfl) (Or.inl rfl) (fun X hX hT _ => ?_)
  have hX : OK X D cJ5_newCapacity_0f7a4 "java/lang/AbstractStringBuilder" 6 := hX
  have hR := RT.room hT
  change J X D 6 0 0 _ _ _ 0 [.ref b, .int (nI q), .retAddr 0, .retAddr 0, .retAddr 0, .retAddr 0] []
  have hN := newC_b hq hq2
  refine r_aload_n hX dJ5_newCapacity_0f7a4_0 rfl ?_
  refine r_getR hX gf_J5_15 rfl dJ5_newCapacity_0f7a4_1 hB.lt hB.sh hB.val ?_
  refine r_alen (t := 0) hX dJ5_newCapacity_0f7a4_4 hB.vlt hB.vsh (by decide) ?_
  refine r_istore_n hX dJ5_newCapacity_0f7a4_5 (by decide) rfl ?_
  refine r_iload_n hX dJ5_newCapacity_0f7a4_6 rfl ?_
  refine r_aload_n hX dJ5_newCapacity_0f7a4_7 rfl ?_
  refine r_getX hX gf_J5_22 rfl dJ5_newCapacity_0f7a4_8 hB.lt hB.sh hB.cod ?_
  refine r_ishl hX dJ5_newCapacity_0f7a4_11 ?_
  rw [sh0l]
  refine r_istore_n hX dJ5_newCapacity_0f7a4_12 (by decide) rfl ?_
  refine r_iload_n hX dJ5_newCapacity_0f7a4_13 rfl ?_
  refine r_iload_n hX dJ5_newCapacity_0f7a4_14 rfl ?_
  refine r_isub hX dJ5_newCapacity_0f7a4_15 ?_
  rw [n_sub (by omega)]
  refine r_istore hX dJ5_newCapacity_0f7a4_16 (by decide) rfl ?_
  refine r_iload_n hX dJ5_newCapacity_0f7a4_18 rfl ?_
  refine r_iload hX dJ5_newCapacity_0f7a4_19 rfl ?_
  refine r_iload_n hX dJ5_newCapacity_0f7a4_21 rfl ?_
  refine r_iconst hX dJ5_newCapacity_0f7a4_22 (v := nI 2) (by decide) ?_
  refine r_aload_n hX dJ5_newCapacity_0f7a4_23 rfl ?_
  refine r_getX hX gf_J5_22 rfl dJ5_newCapacity_0f7a4_24 hB.lt hB.sh hB.cod ?_
  refine r_ishl hX dJ5_newCapacity_0f7a4_27 ?_
  rw [sh0l]
  refine r_iadd hX dJ5_newCapacity_0f7a4_28 ?_
  rw [nI_add]
  refine r_Si (v := nI (newC cap q)) (As := [.int (nI cap), .int (nI (q - cap)), .int (nI (cap + 2))]) hX hR (c_J8_newLength rfl (show 0 < newC cap q by omega) (show newC cap q < 100000 by omega) (by omega) (by omega)) lk_J5_114 dJ5_newCapacity_0f7a4_29 rfl rfl (Nat.le_of_ble_eq_true rfl) (by decide) (by first | decide | omega) (by first | decide | omega) ?_
  refine r_istore hX dJ5_newCapacity_0f7a4_32 (by decide) rfl ?_
  refine r_iload hX dJ5_newCapacity_0f7a4_34 rfl ?_
  refine r_ldc hX kc_J5_39 dJ5_newCapacity_0f7a4_36 ?_
  refine r_icmp_ne hX dJ5_newCapacity_0f7a4_38 (tgt := 51) (by decide) (fun _ => ?_) (fun h => absurd h (big_ne (by omega)))
  refine r_iload hX dJ5_newCapacity_0f7a4_51 rfl ?_
  refine r_aload_n hX dJ5_newCapacity_0f7a4_53 rfl ?_
  refine r_getX hX gf_J5_22 rfl dJ5_newCapacity_0f7a4_54 hB.lt hB.sh hB.cod ?_
  refine r_ishr hX dJ5_newCapacity_0f7a4_57 ?_
  rw [sh0r]
  exact r_iretI hX hT dJ5_newCapacity_0f7a4_58 (by first | rfl | decide) (by decide) (by decide)
def CPY (G : GT) (I : IT) (L : LT) (v cap N : Nat) : Res → GT → IT → LT → Prop := fun r G' I' L' => r = .inl (some (.ref G.1)) ∧ G' = gNew G 20 N ∧ I' = up1 (iNew G I) G.1 (va_cpy (iNew G I v) (iNew G I G.1) 0 0 cap) ∧ L' = L
set_option maxRecDepth 100000 in
set_option maxHeartbeats 4000000 in
theorem c_J7_copyOf {N : Nat} (hv : v < G.1) (hs : G.2.1 v = (20, cap)) (hc : cap < N) (hN : N ≤ 320) (hby : ∀ j, j < cap → -128 ≤ (I v j).toInt ∧ (I v j).toInt < 128) (hb : G.1 + 1 < 1000000) : Con l D m_J7_copyOf_9075b 2 [.ref v, .int (nI N)] 1 320 G I L (CPY G I L v cap N) := by
  refine Con.of (by decide +kernel) (by simp [Value.category]) (Nat.le_of_ble_eq_true rfl) (Or.inr hb) (fun X hX hT _ => ?_)
  have hX : OK X D cJ7_copyOf_9075b "java/util/Arrays" 3 := hX
  have hR := RT.room hT
  change J X D 3 0 0 _ _ _ 0 [.ref v, .int (nI N), .retAddr 0] []
  have hne : v ≠ G.1 := Nat.ne_of_lt hv
  have hs2 : (gNew G 20 N).2.1 v = (20, cap) := (if_neg hne).trans hs
  have hs3 : (gNew G 20 N).2.1 G.1 = (20, N) := if_pos rfl
  have hl2 : v < (gNew G 20 N).1 := by show v < G.1 + 1; omega
  have hl3 : G.1 < (gNew G 20 N).1 := by show G.1 < G.1 + 1; omega
  have hiv : iNew G I v = I v := if_neg hne
  refine r_iload_n hX dJ7_copyOf_9075b_0 rfl ?_
  refine r_aload_n hX dJ7_copyOf_9075b_1 rfl ?_
  refine r_alen (t := 0) hX dJ7_copyOf_9075b_2 hv hs (by decide) ?_
  refine r_icmp_ne hX dJ7_copyOf_9075b_3 (tgt := 14) (by decide) (fun _ => ?_) (fun h => absurd ((nI_eq (by omega) (by omega)).mp h) (by omega))
  refine r_iload_n hX dJ7_copyOf_9075b_14 rfl ?_
  refine r_newaB hX hR dJ7_copyOf_9075b_15 rfl (by omega) (by decide) (by omega) hb ?_
  refine r_astore_n hX dJ7_copyOf_9075b_17 (by decide) rfl ?_
  refine r_aload_n hX dJ7_copyOf_9075b_18 rfl ?_
  refine r_iconst hX dJ7_copyOf_9075b_19 (v := nI 0) (by decide) ?_
  refine r_aload_n hX dJ7_copyOf_9075b_20 rfl ?_
  refine r_iconst hX dJ7_copyOf_9075b_21 (v := nI 0) (by decide) ?_
  refine r_aload_n hX dJ7_copyOf_9075b_22 rfl ?_
  refine r_alen (t := 0) hX dJ7_copyOf_9075b_23 hl2 hs2 (by decide) ?_
  refine r_iload_n hX dJ7_copyOf_9075b_24 rfl ?_
  refine r_min hX hR mm_J7_304 w_min1 w_math w_min2 dJ7_copyOf_9075b_25 (Nat.le_of_ble_eq_true rfl) (by decide) (by decide) (by omega) ?_
  rw [if_neg (nI_nlt (by omega) (by omega))]
  refine r_acopy hX hR tw_acJ7 (Or.inl ⟨hl2, hs2, rfl⟩) hl3 hs3 (by omega) (by omega) (by omega) (by omega) (fun i hi => ?_) dJ7_copyOf_9075b_28 (Nat.le_of_ble_eq_true rfl) (by decide) ?_
  · rw [hiv, Nat.zero_add]; exact fits_b (hby i hi).1 (hby i hi).2
  refine r_aload_n hX dJ7_copyOf_9075b_31 rfl ?_
  exact r_aret hX hT dJ7_copyOf_9075b_32 (Or.inr ⟨_, rfl⟩) ⟨rfl, rfl, rfl, rfl⟩ (by decide) (by omega)
def ENS (b : Nat) (I0 : ZT) (L : LT) (n q : Nat) : Res → GT → IT → LT → Prop := fun r G' I' L' => r = .inl none ∧ L' = L ∧ ∃ v' cap', LB b G' I0 I' v' cap' n ∧ q ≤ cap'
theorem ENS.quiet {b : Nat} {I0 : ZT} {L : LT} {n q : Nat} : Quiet (ENS b I0 L n q) := fun _ _ _ _ h => by obtain ⟨h, -⟩ := h; cases h
set_option maxRecDepth 100000 in
set_option maxHeartbeats 4000000 in
theorem c_J5_ens0 (hB : LB b G I0 I v cap n) {q : Nat} (hq : q ≤ cap) : Con l D m_J5_ensureCapacityInternal_d00df 6 [.ref b, .int (nI q)] 0 0 G I L (PqV G I L) := by
  refine Con.of (by decide +kernel) (by simp [Value.category]) (Nat.le_of_ble_eq_true rfl) (Or.inl rfl) (fun X hX hT _ => ?_)
  have hX : OK X D cJ5_ensureCapacityInternal_d00df "java/lang/AbstractStringBuilder" 3 := hX
  have hR := RT.room hT
  change J X D 3 0 0 _ _ _ 0 [.ref b, .int (nI q), .retAddr 0] []
  have hcp := hB.c320
  refine r_aload_n hX dJ5_ensureCapacityInternal_d00df_0 rfl ?_
  refine r_getR hX gf_J5_15 rfl dJ5_ensureCapacityInternal_d00df_1 hB.lt hB.sh hB.val ?_
  refine r_alen (t := 0) hX dJ5_ensureCapacityInternal_d00df_4 hB.vlt hB.vsh (by decide) ?_
  refine r_aload_n hX dJ5_ensureCapacityInternal_d00df_5 rfl ?_
  refine r_getX hX gf_J5_22 rfl dJ5_ensureCapacityInternal_d00df_6 hB.lt hB.sh hB.cod ?_
  refine r_ishr hX dJ5_ensureCapacityInternal_d00df_9 ?_
  rw [sh0r]
  refine r_istore_n hX dJ5_ensureCapacityInternal_d00df_10 (by decide) rfl ?_
  refine r_iload_n hX dJ5_ensureCapacityInternal_d00df_11 rfl ?_
  refine r_iload_n hX dJ5_ensureCapacityInternal_d00df_12 rfl ?_
  refine r_isub hX dJ5_ensureCapacityInternal_d00df_13 ?_
  refine r_if_le hX dJ5_ensureCapacityInternal_d00df_14 (tgt := 38) (by decide) (fun _ => ?_) (fun h => absurd (sub_le0 hq (by omega)) h)
  exact r_vretV hX hT dJ5_ensureCapacityInternal_d00df_38 (by decide) (by decide)
set_option maxRecDepth 100000 in
set_option maxHeartbeats 4000000 in
theorem c_J5_ens (hB : LB b G I0 I v cap n) {q : Nat} (hq2 : q ≤ 160) (hb : G.1 + 1 < 1000000) : Con l D m_J5_ensureCapacityInternal_d00df 6 [.ref b, .int (nI q)] 1 320 G I L (ENS b I0 L n q) := by
  refine Con.of (by decide +kernel) (by simp [Value.category]) (Nat.le_of_ble_eq_true rfl) (Or.inr hb) (fun X hX hT _ => ?_)
  have hX : OK X D cJ5_ensureCapacityInternal_d00df "java/lang/AbstractStringBuilder" 3 := hX
  have hR := RT.room hT
  change J X D 3 0 0 _ _ _ 0 [.ref b, .int (nI q), .retAddr 0] []
  have hcp := hB.c320
  refine r_aload_n hX dJ5_ensureCapacityInternal_d00df_0 rfl ?_
  refine r_getR hX gf_J5_15 rfl dJ5_ensureCapacityInternal_d00df_1 hB.lt hB.sh hB.val ?_
  refine r_alen (t := 0) hX dJ5_ensureCapacityInternal_d00df_4 hB.vlt hB.vsh (by decide) ?_
  refine r_aload_n hX dJ5_ensureCapacityInternal_d00df_5 rfl ?_
  refine r_getX hX gf_J5_22 rfl dJ5_ensureCapacityInternal_d00df_6 hB.lt hB.sh hB.cod ?_
  refine r_ishr hX dJ5_ensureCapacityInternal_d00df_9 ?_
  rw [sh0r]
  refine r_istore_n hX dJ5_ensureCapacityInternal_d00df_10 (by decide) rfl ?_
  refine r_iload_n hX dJ5_ensureCapacityInternal_d00df_11 rfl ?_
  refine r_iload_n hX dJ5_ensureCapacityInternal_d00df_12 rfl ?_
  refine r_isub hX dJ5_ensureCapacityInternal_d00df_13 ?_
  rcases Nat.lt_or_ge cap q with hq | hq
  · have hN := newC_b hq hq2
    rw [n_sub (by omega)]
    refine r_if_le hX dJ5_ensureCapacityInternal_d00df_14 (tgt := 38) (by decide) (fun h => absurd h (nI_nle (by omega) (by omega))) (fun _ => ?_)
    refine r_aload_n hX dJ5_ensureCapacityInternal_d00df_17 rfl ?_
    refine r_aload_n hX dJ5_ensureCapacityInternal_d00df_18 rfl ?_
    refine r_getR hX gf_J5_15 rfl dJ5_ensureCapacityInternal_d00df_19 hB.lt hB.sh hB.val ?_
    refine r_aload_n hX dJ5_ensureCapacityInternal_d00df_22 rfl ?_
    refine r_iload_n hX dJ5_ensureCapacityInternal_d00df_23 rfl ?_
    refine r_Ui (As := [.int (nI q)]) hX hR (c_J5_newCap hB hq hq2) lk_J5_104 hB.rc dJ5_ensureCapacityInternal_d00df_24 rfl rfl (Nat.le_of_ble_eq_true rfl) (by decide) (by first | decide | omega) (by first | decide | omega) ?_
    refine r_aload_n hX dJ5_ensureCapacityInternal_d00df_27 rfl ?_
    refine r_getX hX gf_J5_22 rfl dJ5_ensureCapacityInternal_d00df_28 hB.lt hB.sh hB.cod ?_
    refine r_ishl hX dJ5_ensureCapacityInternal_d00df_31 ?_
    rw [sh0l]
    refine r_callS (As := [.ref v, .int (nI (newC cap q))]) hX hR (c_J7_copyOf hB.vlt hB.vsh hN.2.2 hN.2.1 hB.byt hb) lk_J5_108 dJ5_ensureCapacityInternal_d00df_32 rfl rfl (Nat.le_of_ble_eq_true rfl) (by decide) (by decide) (by decide) ?_ ?_
    · rintro r G' I' L' ⟨e1, rfl, rfl, rfl⟩
      cases e1
      refine r_putR (z := 0) hX pf_J5_15 rfl dJ5_ensureCapacityInternal_d00df_35 (show b < G.1 + 1 by have := hB.lt; omega) ((if_neg (by have := hB.lt; omega)).trans hB.sh) (Or.inr ⟨_, rfl⟩) ?_
      exact r_vret hX hT dJ5_ensureCapacityInternal_d00df_38 ⟨rfl, rfl, G.1, newC cap q, hB.fresh (by omega) hN.2.1, hN.1⟩ (by decide) (by decide)
    · rintro E G' I' L' ⟨e1, -⟩
      cases e1
  · refine r_if_le hX dJ5_ensureCapacityInternal_d00df_14 (tgt := 38) (by decide) (fun _ => ?_) (fun h => absurd (sub_le0 hq (by omega)) h)
    exact r_vret hX hT dJ5_ensureCapacityInternal_d00df_38 ⟨rfl, rfl, v, cap, hB, hq⟩ (by decide) (by decide)
set_option maxRecDepth 100000 in
set_option maxHeartbeats 4000000 in
theorem c_J5_setLen0 (hB : LB b G I0 I v cap n) : Con l D m_J5_setLength_d00df 7 [.ref b, .int (nI 0)] 0 0 G I L (Pq G L fun r I' => r = none ∧ LB b G (I0.1, []) I' v cap 0) := by
  refine Con.of (by decide +kernel) (by simp [Value.category]) (Nat.le_of_ble_eq_true rfl) (Or.inl rfl) (fun X hX hT _ => ?_)
  have hX : OK X D cJ5_setLength_d00df "java/lang/AbstractStringBuilder" 2 := hX
  have hR := RT.room hT
  change J X D 2 0 0 _ _ _ 0 [.ref b, .int (nI 0)] []
  have hcp := hB.n150
  have tail : ∀ M : IT, (∀ k, k ≠ b → M k = I k) → M b 1 = 0 → J X D 2 0 0 G M L 76 [.ref b, .int (nI 0)] [] := by
    intro M e1 e2
    refine r_aload_n hX dJ5_setLength_d00df_76 rfl ?_
    refine r_iload_n hX dJ5_setLength_d00df_77 rfl ?_
    refine r_putI (x := nI 0) hX pf_J5_79 rfl dJ5_setLength_d00df_78 hB.lt hB.sh (by decide) (by decide) ?_
    exact r_vretQ hX hT dJ5_setLength_d00df_81 ⟨rfl, hB.set0 (fun k hk => by rw [up2_ne hk]; exact e1 k hk) (by rw [up2_nej (by decide)]; exact e2) up2_same⟩ (by decide) (by decide)
  refine r_iload_n hX dJ5_setLength_d00df_0 rfl ?_
  refine r_if_ge hX dJ5_setLength_d00df_1 (tgt := 13) (by decide) (fun _ => ?_) (fun h => absurd (nI_pos' (by decide)) h)
  refine r_aload_n hX dJ5_setLength_d00df_13 rfl ?_
  refine r_iload_n hX dJ5_setLength_d00df_14 rfl ?_
  refine r_Uv (As := [.int (nI 0)]) hX hR (c_J5_ens0 hB (Nat.zero_le _)) lk_J5_100 hB.rc dJ5_setLength_d00df_15 rfl rfl (Nat.le_of_ble_eq_true rfl) (by decide) (by first | decide | omega) (by first | decide | omega) ?_
  refine r_aload_n hX dJ5_setLength_d00df_18 rfl ?_
  refine r_getX hX gf_J5_79 rfl dJ5_setLength_d00df_19 hB.lt hB.sh hB.cnt ?_
  refine r_iload_n hX dJ5_setLength_d00df_22 rfl ?_
  refine r_icmp_ge hX dJ5_setLength_d00df_23 (tgt := 63) (by decide) (fun _ => ?_) (fun h => absurd (nI_le (Nat.zero_le n) (by omega)) h)
  refine r_aload_n hX dJ5_setLength_d00df_63 rfl ?_
  refine r_getX hX gf_J5_79 rfl dJ5_setLength_d00df_64 hB.lt hB.sh hB.cnt ?_
  refine r_iload_n hX dJ5_setLength_d00df_67 rfl ?_
  refine r_icmp_le hX dJ5_setLength_d00df_68 (tgt := 76) (by decide) (fun _ => tail I (fun _ _ => rfl) hB.cod) (fun _ => ?_)
  refine r_aload_n hX dJ5_setLength_d00df_71 rfl ?_
  refine r_iconst hX dJ5_setLength_d00df_72 (v := nI 1) (by decide) ?_
  refine r_putI (x := nI 1) hX pf_J5_73 rfl dJ5_setLength_d00df_73 hB.lt hB.sh (by decide) (by decide) ?_
  exact tail _ (fun k hk => up2_ne hk) (by rw [up2_nej (by decide)]; exact hB.cod)
set_option maxRecDepth 100000 in
set_option maxHeartbeats 4000000 in
theorem c_J1_canEnc {c0 : Nat} (hc : c0 < 128) : Con l D m_J1_canEncode_fc78d 1 [.int (nI c0)] 0 0 G I L (PqI G I L (nI 1)) := by
  refine Con.of (by decide +kernel) (by simp [Value.category]) (Nat.le_of_ble_eq_true rfl) (Or.inl rfl) (fun X hX hT _ => ?_)
  have hX : OK X D cJ1_canEncode_fc78d "java/lang/StringLatin1" 1 := hX
  have hR := RT.room hT
  change J X D 1 0 0 _ _ _ 0 [.int (nI c0)] []
  refine r_iload_n hX dJ1_canEncode_fc78d_0 rfl ?_
  refine r_sipush hX dJ1_canEncode_fc78d_1 (v := nI 255) (by decide) ?_
  refine r_icmp_gt hX dJ1_canEncode_fc78d_4 (tgt := 11) (by decide) (fun h => absurd h (nI_nlt (by omega) (by decide))) (fun _ => ?_)
  refine r_iconst hX dJ1_canEncode_fc78d_7 (v := nI 1) (by decide) ?_
  refine r_goto hX dJ1_canEncode_fc78d_8 (tgt := 12) (by decide) ?_
  exact r_iretI hX hT dJ1_canEncode_fc78d_12 (by first | rfl | decide) (by decide) (by decide)
def APP (b : Nat) (I0 : ZT) (L : LT) (n : Nat) (l : List Nat) : Res → GT → IT → LT → Prop := fun r G' I' L' => r = .inl (some (.ref b)) ∧ L' = L ∧ ∃ v' cap', LB b G' (I0.1, I0.2 ++ l) I' v' cap' (n + l.length)
theorem APP.quiet {b : Nat} {I0 : ZT} {L : LT} {n : Nat} {l : List Nat} : Quiet (APP b I0 L n l) := fun _ _ _ _ h => by obtain ⟨h, -⟩ := h; cases h
set_option maxRecDepth 100000 in
set_option maxHeartbeats 4000000 in
theorem c_J5_appC (hB : LB b G I0 I v cap n) {c0 : Nat} (hc : c0 < 128) (hn : n + 1 ≤ 150) (hb : G.1 + 1 < 1000000) : Con l D m_J5_append_3fe6f 7 [.ref b, .int (nI c0)] 1 320 G I L (APP b I0 L n [c0]) := by
  refine Con.of (by decide +kernel) (by simp [Value.category]) (Nat.le_of_ble_eq_true rfl) (Or.inr hb) (fun X hX hT _ => ?_)
  have hX : OK X D cJ5_append_3fe6f "java/lang/AbstractStringBuilder" 2 := hX
  have hR := RT.room hT
  change J X D 2 0 0 _ _ _ 0 [.ref b, .int (nI c0)] []
  refine r_aload_n hX dJ5_append_3fe6f_0 rfl ?_
  refine r_aload_n hX dJ5_append_3fe6f_1 rfl ?_
  refine r_getX hX gf_J5_79 rfl dJ5_append_3fe6f_2 hB.lt hB.sh hB.cnt ?_
  refine r_iconst hX dJ5_append_3fe6f_5 (v := nI 1) (by decide) ?_
  refine r_iadd hX dJ5_append_3fe6f_6 ?_
  rw [nI_add]
  refine r_callU (As := [.int (nI (n + 1))]) hX hR (c_J5_ens hB (show n + 1 ≤ 160 by omega) hb) ENS.quiet lk_J5_100 hB.rc dJ5_append_3fe6f_7 rfl rfl (Nat.le_of_ble_eq_true rfl) (by decide) (by decide) (by decide) ?_
  rintro r G2 I2 L2 ⟨e1, rfl, v2, cap2, hB2, hcap⟩
  cases e1
  have hv2 := hB2.v60
  have hcp2 := hB2.c320
  refine r_aload_n hX dJ5_append_3fe6f_10 rfl ?_
  refine r_Ui (As := []) hX hR (c_J5_isL hB2) lk_J5_83 hB2.rc dJ5_append_3fe6f_11 rfl rfl (Nat.le_of_ble_eq_true rfl) (by decide) (by first | decide | omega) (by first | decide | omega) ?_
  refine r_if_eq hX dJ5_append_3fe6f_14 (tgt := 45) (by decide) (fun h => absurd h (by decide)) (fun _ => ?_)
  refine r_iload_n hX dJ5_append_3fe6f_17 rfl ?_
  refine r_Si (As := [.int (nI c0)]) hX hR (c_J1_canEnc hc) lk_J5_191 dJ5_append_3fe6f_18 rfl rfl (Nat.le_of_ble_eq_true rfl) (by decide) (by first | decide | omega) (by first | decide | omega) ?_
  refine r_if_eq hX dJ5_append_3fe6f_21 (tgt := 45) (by decide) (fun h => absurd h (by decide)) (fun _ => ?_)
  refine r_aload_n hX dJ5_append_3fe6f_24 rfl ?_
  refine r_getR hX gf_J5_15 rfl dJ5_append_3fe6f_25 hB2.lt hB2.sh hB2.val ?_
  refine r_aload_n hX dJ5_append_3fe6f_28 rfl ?_
  refine r_dup hX dJ5_append_3fe6f_29 rfl ?_
  refine r_getX hX gf_J5_79 rfl dJ5_append_3fe6f_30 hB2.lt hB2.sh hB2.cnt ?_
  refine r_dup_x1 hX dJ5_append_3fe6f_33 rfl rfl ?_
  refine r_iconst hX dJ5_append_3fe6f_34 (v := nI 1) (by decide) ?_
  refine r_iadd hX dJ5_append_3fe6f_35 ?_
  rw [nI_add]
  refine r_putI (x := nI (n + 1)) hX pf_J5_79 rfl dJ5_append_3fe6f_36 hB2.lt hB2.sh rfl rfl ?_
  refine r_iload_n hX dJ5_append_3fe6f_39 rfl ?_
  refine r_i2b hX dJ5_append_3fe6f_40 ?_
  rw [by_b _ hc]
  refine r_bast hX dJ5_append_3fe6f_41 hB2.vlt hB2.vsh rfl (show n < cap2 by omega) (by omega) (y := nI c0) (by rw [vp_nar_byte]; exact by_b _ hc) ?_
  refine r_goto hX dJ5_append_3fe6f_42 (tgt := 75) (by decide) ?_
  refine r_aload_n hX dJ5_append_3fe6f_75 rfl ?_
  refine r_aret hX hT dJ5_append_3fe6f_76 (Or.inl ⟨_, rfl⟩) ⟨rfl, rfl, v2, cap2, hB2.app [c0] (by simpa using hcap) (by simpa using hn) (fun j hj => ?_) (fun k q1 q2 => ?_) ?_ ?_ (fun j hj => ?_) (fun j hj => ?_) (fun j hj => ?_)⟩ (by decide) (by decide)
  · simp only [List.length_cons, List.length_nil] at hj
    rw [show j = 0 by omega]; exact hc
  · rw [up2_ne q1, up2_ne q2]
  · rw [up2_nea (Ne.symm hv2), up2_nej (by decide)]; exact hB2.cod
  · rw [up2_nea (Ne.symm hv2), up2_same]; rfl
  · rw [up2_nej (by omega), up2_nea hv2]
  · simp only [List.length_cons, List.length_nil] at hj
    have hj : j = 0 := by omega
    subst hj
    exact up2_same
  · simp only [List.length_cons, List.length_nil] at hj
    rw [up2_nej (by omega), up2_nea hv2]
end JdkB
/-! ===== texts: Strings, wherever they lie ===== -/
def letF (l : List Nat) : Nat → Int32 := fun j => nI (l.getD j 0)
/-- the String at s has the letters l, in the array w -/
def STG (G : GT) (I : IT) (s w : Nat) (l : List Nat) : Prop := (∃ k, s = 1000000 + k ∧ 53 ≤ k ∧ k < 67 ∧ l = strL k ∧ w = 1000000 + (60 + k)) ∨ (s < G.1 ∧ G.2.1 s = (0, 0) ∧ G.2.2 s 0 = some w ∧ w < G.1 ∧ G.2.1 w = (20, l.length) ∧ I s 1 = 0 ∧ l.length ≤ 150 ∧ ∀ j, j < l.length → l.getD j 0 < 128 ∧ I w j = nI (l.getD j 0))
theorem STG.rc {G : GT} {I : IT} {s w : Nat} {l : List Nat} (h : STG G I s w l) : RC G "java/lang/String" s := by
  rcases h with ⟨k, rfl, h1, h2, -, -⟩ | ⟨h1, h2, -⟩
  · exact rc_str h1 h2
  · exact Or.inl ⟨h1, 0, 0, _, h2, by decide, rfl, rfl⟩
theorem STG.sm {G : GT} {I : IT} {s w : Nat} {l : List Nat} (h : STG G I s w l) : l.length ≤ 150 ∧ ∀ j, j < l.length → l.getD j 0 < 128 := by
  rcases h with ⟨k, -, h1, h2, rfl, -⟩ | ⟨-, -, -, -, -, -, h1, h2⟩
  · have := str_sm k h2 h1
    exact ⟨by omega, this.2⟩
  · exact ⟨h1, fun j hj => (h2 j hj).1⟩
theorem STG.src {G : GT} {I : IT} {s w : Nat} {l : List Nat} (h : STG G I s w l) : ∃ f, SRC G I w l.length f ∧ ∀ j, j < l.length → f j = letF l j := by
  rcases h with ⟨k, -, h1, h2, rfl, rfl⟩ | ⟨-, -, -, h3, h4, -, -, h5⟩
  · exact ⟨letF (strL k), Or.inr ⟨60 + k, _, rfl, (str_rows k h2 h1).2.2.2, fun j hj => vp_Vmap _ hj⟩, fun _ _ => rfl⟩
  · exact ⟨I w, Or.inl ⟨h3, h4, rfl⟩, fun j hj => (h5 j hj).2⟩
theorem cpy_congr {f g : Nat → Int32} {h : Nat → Int32} {dp n : Nat} (e : ∀ j, j < n → f j = g j) : va_cpy f h 0 dp n = va_cpy g h 0 dp n := by
  funext i
  unfold va_cpy
  by_cases q : dp ≤ i ∧ i < dp + n
  · rw [if_pos q, if_pos q]
    exact e _ (by omega)
  · rw [if_neg q, if_neg q]
/-- a text that stood when the change of b began stands -/
def STB (Z : ZT) (s w : Nat) (l : List Nat) : Prop := STG Z.1.1 Z.1.2.1 s w l ∧ ((∃ k, s = 1000000 + k ∧ 53 ≤ k ∧ k < 67 ∧ l = strL k ∧ w = 1000000 + (60 + k)) ∨ (s ≠ Z.1.2.2 ∧ w ≠ Z.1.2.2))
theorem LB.stg {b : Nat} {G : GT} {Z : ZT} {I : IT} {v cap n s w : Nat} {l : List Nat} (h : LB b G Z I v cap n) (hs : STB Z s w l) : STG G I s w l := by
  obtain ⟨hs, hne⟩ := hs
  obtain ⟨a1, a2, a3, a4, a5, a6⟩ := h.1
  have hbs := h.sh
  rcases hne with hc | ⟨n1, n2⟩
  · exact Or.inl hc
  rcases hs with hs | ⟨h1, h2, h3, h4, h5, h6, h7, h8⟩
  · exact Or.inl hs
  · have e1 := a3 s h1
    have e2 := a3 w h4
    have q1 : s ≠ b := by
      rintro rfl
      rw [hbs, h2] at e1
      cases e1
    have q2 : w ≠ b := by
      rintro rfl
      rw [hbs, h5] at e2
      cases e2
    refine Or.inr ⟨Nat.lt_of_lt_of_le h1 a2, e1.trans h2, by rw [a4 s h1 q1]; exact h3, Nat.lt_of_lt_of_le h4 a2, e2.trans h5, by rw [a5 s h1 q1 n1]; exact h6, h7, fun j hj => ?_⟩
    rw [a5 w h4 q2 n2]; exact h8 j hj
section StrR
variable {X : XT} {D : DT} {cc : ByteArray} {own : String} {nL c w0 : Nat} {G : GT} {I : IT} {L : LT} {pc : Nat} {ls st : List Value} {s w : Nat} {l : List Nat}
theorem r_scod (hX : OK X D cc "java/lang/String" nL) (hs : STG G I s w l) (d : decode cc pc = .ok (.getfield 15, 3)) (k : J X D nL c w0 G I L (pc + 3) ls (.int 0 :: st)) : J X D nL c w0 G I L pc ls (.ref s :: st) := by
  rcases hs with ⟨k0, rfl, h1, h2, -, -⟩ | ⟨h1, h2, h3, -, -, h6, -⟩
  · exact r_getC hX (str_rows k0 h2 h1).1 gc_J0_15 d k
  · exact r_getX hX gf_J0_15 rfl d h1 h2 h6 k
theorem r_sval (hX : OK X D cc "java/lang/String" nL) (hs : STG G I s w l) (d : decode cc pc = .ok (.getfield 9, 3)) (k : J X D nL c w0 G I L (pc + 3) ls (.ref w :: st)) : J X D nL c w0 G I L pc ls (.ref s :: st) := by
  rcases hs with ⟨k0, rfl, h1, h2, -, rfl⟩ | ⟨h1, h2, h3, -⟩
  · exact r_getC hX (str_rows k0 h2 h1).2.1 gc_J0_9 d k
  · exact r_getR hX gf_J0_9 rfl d h1 h2 h3 k
theorem r_slen (hX : OK X D cc own nL) (hs : STG G I s w l) (d : decode cc pc = .ok (.arraylength, 1)) (k : J X D nL c w0 G I L (pc + 1) ls (.int (nI l.length) :: st)) : J X D nL c w0 G I L pc ls (.ref w :: st) := by
  rcases hs with ⟨k0, -, h1, h2, rfl, rfl⟩ | ⟨-, -, -, h4, h5, -⟩
  · exact r_lenC hX (str_rows k0 h2 h1).2.2.2 d k
  · exact r_alen (t := 0) hX d h4 h5 (by decide) k
theorem r_sbyte (hX : OK X D cc own nL) (hs : STG G I s w l) {x : Nat} (hx : x < l.length) (d : decode cc pc = .ok (.baload, 1)) (k : J X D nL c w0 G I L (pc + 1) ls (.int (nI (l.getD x 0)) :: st)) : J X D nL c w0 G I L pc ls (.int (nI x) :: .ref w :: st) := by
  have hsm := hs.sm
  rcases hs with ⟨k0, -, h1, h2, rfl, rfl⟩ | ⟨-, -, -, h4, h5, -, h7, h8⟩
  · exact r_baldC hX (j := x) (str_rows k0 h2 h1).2.2.2 d rfl hx (by omega) (vp_Vmap _ hx) k
  · exact r_bald hX d h4 h5 rfl hx (by omega) (by rw [(h8 x hx).2]; exact k)
end StrR
section JdkS
variable {l0 : Launch} {D : DT} {G : GT} {I0 : ZT} {I : IT} {L : LT} {b v cap n s w : Nat} {l : List Nat}
set_option maxRecDepth 100000 in
set_option maxHeartbeats 4000000 in
theorem c_J0_coder (hs : STG G I s w l) : Con l0 D m_J0_coder_7d493 1 [.ref s] 0 0 G I L (PqI G I L 0) := by
  refine Con.of (by decide +kernel) (by simp [Value.category]) (Nat.le_of_ble_eq_true rfl) (Or.inl rfl) (fun X hX hT _ => ?_)
  have hX : OK X D cJ0_coder_7d493 "java/lang/String" 1 := hX
  have hR := RT.room hT
  change J X D 1 0 0 _ _ _ 0 [.ref s] []
  refine r_gets hX hq_cs gs_J0_38 dJ0_coder_7d493_0 ?_
  refine r_if_eq hX dJ0_coder_7d493_3 (tgt := 13) (by decide) (fun h => absurd h one_ne) (fun _ => ?_)
  refine r_aload_n hX dJ0_coder_7d493_6 rfl ?_
  refine r_scod hX hs dJ0_coder_7d493_7 ?_
  refine r_goto hX dJ0_coder_7d493_10 (tgt := 14) (by decide) ?_
  exact r_iretI hX hT dJ0_coder_7d493_14 (by decide) (by decide) (by decide)
set_option maxRecDepth 100000 in
set_option maxHeartbeats 4000000 in
theorem c_J0_length (hs : STG G I s w l) : Con l0 D m_J0_length_8abf5 2 [.ref s] 0 0 G I L (PqI G I L (nI l.length)) := by
  refine Con.of (by decide +kernel) (by simp [Value.category]) (Nat.le_of_ble_eq_true rfl) (Or.inl rfl) (fun X hX hT _ => ?_)
  have hX : OK X D cJ0_length_8abf5 "java/lang/String" 1 := hX
  have hR := RT.room hT
  change J X D 1 0 0 _ _ _ 0 [.ref s] []
  refine r_aload_n hX dJ0_length_8abf5_0 rfl ?_
  refine r_sval hX hs dJ0_length_8abf5_1 ?_
  refine r_slen hX hs dJ0_length_8abf5_4 ?_
  refine r_aload_n hX dJ0_length_8abf5_5 rfl ?_
  refine r_Vi hX hR (c_J0_coder hs) lk_J0_335 hs.rc dJ0_length_8abf5_6 rfl rfl (Nat.le_of_ble_eq_true rfl) (by decide) (by first | decide | omega) (by first | decide | omega) ?_
  refine r_ishr hX dJ0_length_8abf5_9 ?_
  rw [sh0r]
  exact r_iretI hX hT dJ0_length_8abf5_10 rfl (by decide) (by decide)
set_option maxRecDepth 100000 in
set_option maxHeartbeats 4000000 in
theorem c_J1_charAt (hs : STG G I s w l) {x : Nat} (hx : x < l.length) : Con l0 D m_J1_charAt_3b067 3 [.ref w, .int (nI x)] 0 0 G I L (PqI G I L (nI (l.getD x 0))) := by
  refine Con.of (by decide +kernel) (by simp [Value.category]) (Nat.le_of_ble_eq_true rfl) (Or.inl rfl) (fun X hX hT _ => ?_)
  have hX : OK X D cJ1_charAt_3b067 "java/lang/StringLatin1" 2 := hX
  have hR := RT.room hT
  change J X D 2 0 0 _ _ _ 0 [.ref w, .int (nI x)] []
  have hsm := hs.sm
  have hc := hsm.2 x hx
  refine r_iload_n hX dJ1_charAt_3b067_0 rfl ?_
  refine r_aload_n hX dJ1_charAt_3b067_1 rfl ?_
  refine r_slen hX hs dJ1_charAt_3b067_2 ?_
  refine r_Sv (As := [.int (nI x), .int (nI l.length)]) hX hR (c_J0_check hx (by omega)) lk_J1_9 dJ1_charAt_3b067_3 rfl rfl (Nat.le_of_ble_eq_true rfl) (by decide) (by first | decide | omega) (by first | decide | omega) ?_
  refine r_aload_n hX dJ1_charAt_3b067_6 rfl ?_
  refine r_iload_n hX dJ1_charAt_3b067_7 rfl ?_
  refine r_sbyte hX hs hx dJ1_charAt_3b067_8 ?_
  refine r_sipush hX dJ1_charAt_3b067_9 (v := nI 255) (by decide) ?_
  refine r_iand hX dJ1_charAt_3b067_12 ?_
  refine r_i2c hX dJ1_charAt_3b067_13 ?_
  rw [ch_b _ hc]
  exact r_iretI hX hT dJ1_charAt_3b067_14 (nar_c (isC_n (by omega))) (by decide) (by decide)
set_option maxRecDepth 100000 in
set_option maxHeartbeats 4000000 in
theorem c_J0_isL (hs : STG G I s w l) : Con l0 D m_J0_isLatin1_aae02 1 [.ref s] 0 0 G I L (PqI G I L (nI 1)) := by
  refine Con.of (by decide +kernel) (by simp [Value.category]) (Nat.le_of_ble_eq_true rfl) (Or.inl rfl) (fun X hX hT _ => ?_)
  have hX : OK X D cJ0_isLatin1_aae02 "java/lang/String" 1 := hX
  have hR := RT.room hT
  change J X D 1 0 0 _ _ _ 0 [.ref s] []
  refine r_gets hX hq_cs gs_J0_38 dJ0_isLatin1_aae02_0 ?_
  refine r_if_eq hX dJ0_isLatin1_aae02_3 (tgt := 17) (by decide) (fun h => absurd h one_ne) (fun _ => ?_)
  refine r_aload_n hX dJ0_isLatin1_aae02_6 rfl ?_
  refine r_scod hX hs dJ0_isLatin1_aae02_7 ?_
  refine r_if_ne hX dJ0_isLatin1_aae02_10 (tgt := 17) (by decide) (fun h => absurd rfl h) (fun _ => ?_)
  refine r_iconst hX dJ0_isLatin1_aae02_13 (v := nI 1) (by decide) ?_
  refine r_goto hX dJ0_isLatin1_aae02_14 (tgt := 18) (by decide) ?_
  exact r_iretI hX hT dJ0_isLatin1_aae02_18 (by decide) (by decide) (by decide)
set_option maxRecDepth 100000 in
set_option maxHeartbeats 4000000 in
theorem c_J0_charAt (hs : STG G I s w l) {x : Nat} (hx : x < l.length) : Con l0 D m_J0_charAt_5068e 8 [.ref s, .int (nI x)] 0 0 G I L (PqI G I L (nI (l.getD x 0))) := by
  refine Con.of (by decide +kernel) (by simp [Value.category]) (Nat.le_of_ble_eq_true rfl) (Or.inl rfl) (fun X hX hT _ => ?_)
  have hX : OK X D cJ0_charAt_5068e "java/lang/String" 2 := hX
  have hR := RT.room hT
  change J X D 2 0 0 _ _ _ 0 [.ref s, .int (nI x)] []
  have hsm := hs.sm
  have hc := hsm.2 x hx
  refine r_aload_n hX dJ0_charAt_5068e_0 rfl ?_
  refine r_Vi hX hR (c_J0_isL hs) lk_J0_492 hs.rc dJ0_charAt_5068e_1 rfl rfl (Nat.le_of_ble_eq_true rfl) (by decide) (by first | decide | omega) (by first | decide | omega) ?_
  refine r_if_eq hX dJ0_charAt_5068e_4 (tgt := 16) (by decide) (fun h => absurd h (by decide)) (fun _ => ?_)
  refine r_aload_n hX dJ0_charAt_5068e_7 rfl ?_
  refine r_sval hX hs dJ0_charAt_5068e_8 ?_
  refine r_iload_n hX dJ0_charAt_5068e_11 rfl ?_
  refine r_Si (As := [.ref w, .int (nI x)]) hX hR (c_J1_charAt hs hx) lk_J0_495 dJ0_charAt_5068e_12 rfl rfl (Nat.le_of_ble_eq_true rfl) (by decide) (by first | decide | omega) (by first | decide | omega) ?_
  exact r_iretI hX hT dJ0_charAt_5068e_15 (nar_c (isC_n (by omega))) (by decide) (by decide)
set_option maxRecDepth 100000 in
set_option maxHeartbeats 4000000 in
theorem c_J5_inflIf (hB : LB b G I0 I v cap n) (hs : STG G I s w l) : Con l0 D m_J5_inflateIfNeededFor_a7421 2 [.ref b, .ref s] 0 0 G I L (PqV G I L) := by
  refine Con.of (by decide +kernel) (by simp [Value.category]) (Nat.le_of_ble_eq_true rfl) (Or.inl rfl) (fun X hX hT _ => ?_)
  have hX : OK X D cJ5_inflateIfNeededFor_a7421 "java/lang/AbstractStringBuilder" 2 := hX
  have hR := RT.room hT
  change J X D 2 0 0 _ _ _ 0 [.ref b, .ref s] []
  refine r_gets hX hq_cs gs_J5_18 dJ5_inflateIfNeededFor_a7421_0 ?_
  refine r_if_eq hX dJ5_inflateIfNeededFor_a7421_3 (tgt := 21) (by decide) (fun h => absurd h one_ne) (fun _ => ?_)
  refine r_aload_n hX dJ5_inflateIfNeededFor_a7421_6 rfl ?_
  refine r_getX hX gf_J5_22 rfl dJ5_inflateIfNeededFor_a7421_7 hB.lt hB.sh hB.cod ?_
  refine r_aload_n hX dJ5_inflateIfNeededFor_a7421_10 rfl ?_
  refine r_Vi (As := []) hX hR (c_J0_coder hs) lk_J5_40 hs.rc dJ5_inflateIfNeededFor_a7421_11 rfl rfl (Nat.le_of_ble_eq_true rfl) (by decide) (by first | decide | omega) (by first | decide | omega) ?_
  refine r_icmp_eq hX dJ5_inflateIfNeededFor_a7421_14 (tgt := 21) (by decide) (fun _ => ?_) (fun h => absurd rfl h)
  exact r_vretV hX hT dJ5_inflateIfNeededFor_a7421_21 (by decide) (by decide)
set_option maxRecDepth 100000 in
set_option maxHeartbeats 4000000 in
theorem c_J0_getB (hB : LB b G I0 I v cap n) (hs : STG G I s w l) (hl : n + l.length ≤ cap) : Con l0 D m_J0_getBytes_840e7 4 [.ref s, .ref v, .int (nI n), .int 0] 0 0 G I L (PqV G (up1 I v (va_cpy (letF l) (I v) 0 n l.length)) L) := by
  refine Con.of (by decide +kernel) (by simp [Value.category]) (Nat.le_of_ble_eq_true rfl) (Or.inl rfl) (fun X hX hT _ => ?_)
  have hX : OK X D cJ0_getBytes_840e7 "java/lang/String" 4 := hX
  have hR := RT.room hT
  change J X D 4 0 0 _ _ _ 0 [.ref s, .ref v, .int (nI n), .int 0] []
  have hsm := hs.sm
  have hcp := hB.c320
  obtain ⟨f, hsrc, hf⟩ := hs.src
  rw [← cpy_congr (h := I v) (dp := n) hf] at hT
  refine r_aload_n hX dJ0_getBytes_840e7_0 rfl ?_
  refine r_Vi (As := []) hX hR (c_J0_coder hs) lk_J0_335 hs.rc dJ0_getBytes_840e7_1 rfl rfl (Nat.le_of_ble_eq_true rfl) (by decide) (by first | decide | omega) (by first | decide | omega) ?_
  refine r_iload_n hX dJ0_getBytes_840e7_4 rfl ?_
  refine r_icmp_ne hX dJ0_getBytes_840e7_5 (tgt := 28) (by decide) (fun h => absurd rfl h) (fun _ => ?_)
  refine r_aload_n hX dJ0_getBytes_840e7_8 rfl ?_
  refine r_sval hX hs dJ0_getBytes_840e7_9 ?_
  refine r_iconst hX dJ0_getBytes_840e7_12 (v := nI 0) (by decide) ?_
  refine r_aload_n hX dJ0_getBytes_840e7_13 rfl ?_
  refine r_iload_n hX dJ0_getBytes_840e7_14 rfl ?_
  refine r_iload_n hX dJ0_getBytes_840e7_15 rfl ?_
  refine r_ishl hX dJ0_getBytes_840e7_16 ?_
  rw [sh0l]
  refine r_aload_n hX dJ0_getBytes_840e7_17 rfl ?_
  refine r_sval hX hs dJ0_getBytes_840e7_18 ?_
  refine r_slen hX hs dJ0_getBytes_840e7_21 ?_
  refine r_acopy hX hR tw_acJ0 hsrc hB.vlt hB.vsh (by omega) hl (by omega) (by omega) (fun i hi => ?_) dJ0_getBytes_840e7_22 (Nat.le_of_ble_eq_true rfl) (by decide) ?_
  · have := hsm.2 i hi
    rw [Nat.zero_add, hf i hi]
    refine fits_b ?_ ?_ <;> (show _; unfold letF; rw [nI_toInt (by omega)]; omega)
  refine r_goto hX dJ0_getBytes_840e7_25 (tgt := 43) (by decide) ?_
  exact r_vretV hX hT dJ0_getBytes_840e7_43 (by decide) (by decide)
set_option maxRecDepth 100000 in
set_option maxHeartbeats 4000000 in
theorem c_J5_putAt (hB : LB b G I0 I v cap n) (hs : STG G I s w l) (hl : n + l.length ≤ cap) : Con l0 D m_J5_putStringAt_47b60 5 [.ref b, .int (nI n), .ref s] 0 0 G I L (PqV G (up1 I v (va_cpy (letF l) (I v) 0 n l.length)) L) := by
  refine Con.of (by decide +kernel) (by simp [Value.category]) (Nat.le_of_ble_eq_true rfl) (Or.inl rfl) (fun X hX hT _ => ?_)
  have hX : OK X D cJ5_putStringAt_47b60 "java/lang/AbstractStringBuilder" 3 := hX
  have hR := RT.room hT
  change J X D 3 0 0 _ _ _ 0 [.ref b, .int (nI n), .ref s] []
  refine r_aload_n hX dJ5_putStringAt_47b60_0 rfl ?_
  refine r_aload_n hX dJ5_putStringAt_47b60_1 rfl ?_
  refine r_Uv (As := [.ref s]) hX hR (c_J5_inflIf hB hs) lk_J5_397 hB.rc dJ5_putStringAt_47b60_2 rfl rfl (Nat.le_of_ble_eq_true rfl) (by decide) (by first | decide | omega) (by first | decide | omega) ?_
  refine r_aload_n hX dJ5_putStringAt_47b60_5 rfl ?_
  refine r_aload_n hX dJ5_putStringAt_47b60_6 rfl ?_
  refine r_getR hX gf_J5_15 rfl dJ5_putStringAt_47b60_7 hB.lt hB.sh hB.val ?_
  refine r_iload_n hX dJ5_putStringAt_47b60_10 rfl ?_
  refine r_aload_n hX dJ5_putStringAt_47b60_11 rfl ?_
  refine r_getX hX gf_J5_22 rfl dJ5_putStringAt_47b60_12 hB.lt hB.sh hB.cod ?_
  refine r_Vv (As := [.ref v, .int (nI n), .int 0]) hX hR (c_J0_getB hB hs hl) lk_J5_399 hs.rc dJ5_putStringAt_47b60_15 rfl rfl (Nat.le_of_ble_eq_true rfl) (by decide) (by first | decide | omega) (by first | decide | omega) ?_
  exact r_vretV hX hT dJ5_putStringAt_47b60_18 (by decide) (by decide)
set_option maxRecDepth 100000 in
set_option maxHeartbeats 4000000 in
theorem c_J5_appS (hB : LB b G I0 I v cap n) (hs0 : STB I0 s w l) (hn : n + l.length ≤ 150) (hb : G.1 + 1 < 1000000) : Con l0 D m_J5_append_cf1ce 7 [.ref b, .ref s] 1 320 G I L (APP b I0 L n l) := by
  refine Con.of (by decide +kernel) (by simp [Value.category]) (Nat.le_of_ble_eq_true rfl) (Or.inr hb) (fun X hX hT _ => ?_)
  have hX : OK X D cJ5_append_cf1ce "java/lang/AbstractStringBuilder" 3 := hX
  have hR := RT.room hT
  change J X D 3 0 0 _ _ _ 0 [.ref b, .ref s, .retAddr 0] []
  have hs := hB.stg hs0
  have hsm := hs.sm
  refine r_aload_n hX dJ5_append_cf1ce_0 rfl ?_
  refine r_ifnn hX dJ5_append_cf1ce_1 (tgt := 9) (by decide) ?_
  refine r_aload_n hX dJ5_append_cf1ce_9 rfl ?_
  refine r_Vi (As := []) hX hR (c_J0_length hs) lk_J5_32 hs.rc dJ5_append_cf1ce_10 rfl rfl (Nat.le_of_ble_eq_true rfl) (by decide) (by first | decide | omega) (by first | decide | omega) ?_
  refine r_istore_n hX dJ5_append_cf1ce_13 (by decide) rfl ?_
  refine r_aload_n hX dJ5_append_cf1ce_14 rfl ?_
  refine r_aload_n hX dJ5_append_cf1ce_15 rfl ?_
  refine r_getX hX gf_J5_79 rfl dJ5_append_cf1ce_16 hB.lt hB.sh hB.cnt ?_
  refine r_iload_n hX dJ5_append_cf1ce_19 rfl ?_
  refine r_iadd hX dJ5_append_cf1ce_20 ?_
  rw [nI_add]
  refine r_callU (As := [.int (nI (n + l.length))]) hX hR (c_J5_ens hB (show n + l.length ≤ 160 by omega) hb) ENS.quiet lk_J5_100 hB.rc dJ5_append_cf1ce_21 rfl rfl (Nat.le_of_ble_eq_true rfl) (by decide) (by decide) (by decide) ?_
  rintro r G2 I2 L2 ⟨e1, rfl, v2, cap2, hB2, hcap⟩
  cases e1
  have hs2 := hB2.stg hs0
  have hv2 := hB2.v60
  have hcp2 := hB2.c320
  have hcnt : up1 I2 v2 (va_cpy (letF l) (I2 v2) 0 n l.length) b 3 = nI n := by rw [up1_n (Ne.symm hv2)]; exact hB2.cnt
  refine r_aload_n hX dJ5_append_cf1ce_24 rfl ?_
  refine r_aload_n hX dJ5_append_cf1ce_25 rfl ?_
  refine r_getX hX gf_J5_79 rfl dJ5_append_cf1ce_26 hB2.lt hB2.sh hB2.cnt ?_
  refine r_aload_n hX dJ5_append_cf1ce_29 rfl ?_
  refine r_Uv (As := [.int (nI n), .ref s]) hX hR (c_J5_putAt hB2 hs2 hcap) lk_J5_208 hB2.rc dJ5_append_cf1ce_30 rfl rfl (Nat.le_of_ble_eq_true rfl) (by decide) (by first | decide | omega) (by first | decide | omega) ?_
  refine r_aload_n hX dJ5_append_cf1ce_33 rfl ?_
  refine r_dup hX dJ5_append_cf1ce_34 rfl ?_
  refine r_getX hX gf_J5_79 rfl dJ5_append_cf1ce_35 hB2.lt hB2.sh hcnt ?_
  refine r_iload_n hX dJ5_append_cf1ce_38 rfl ?_
  refine r_iadd hX dJ5_append_cf1ce_39 ?_
  rw [nI_add]
  refine r_putI (x := nI (n + l.length)) hX pf_J5_79 rfl dJ5_append_cf1ce_40 hB2.lt hB2.sh rfl rfl ?_
  refine r_aload_n hX dJ5_append_cf1ce_43 rfl ?_
  refine r_aret hX hT dJ5_append_cf1ce_44 (Or.inl ⟨_, rfl⟩) ⟨rfl, rfl, v2, cap2, hB2.app l hcap hn hsm.2 (fun k q1 q2 => ?_) ?_ up2_same (fun j hj => ?_) (fun j hj => ?_) (fun j hj => ?_)⟩ (by decide) (by decide)
  · rw [up2_ne q2, up1_n q1]
  · rw [up2_nej (by decide), up1_n (Ne.symm hv2)]; exact hB2.cod
  · rw [up2_nea hv2, up1_s]
    exact if_neg (by omega)
  · rw [up2_nea hv2, up1_s]
    refine (if_pos (by omega)).trans ?_
    show nI (l.getD (0 + (n + j - n)) 0) = _
    rw [show 0 + (n + j - n) = j by omega]
  · rw [up2_nea hv2, up1_s]
    exact if_neg (by omega)
end JdkS
