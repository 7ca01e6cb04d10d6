/-! ===== texts made: new StringBuilder(), toString(); the greater of two floats ===== -/
/-- a call through a class whose own method is overridden -/
def LkO (own : String) (idx : Nat) (C owner : String) (x : MethodName) (M : MD) (n : Nat) : Prop := Cond.methodLink own idx x ∈ TW ∧ Cond.sameMethod x.cls owner x.name x.desc ∈ TW ∧ Cond.selects C x M.1 ∈ TW ∧ Cond.instanceMethod M.1 ∈ TW ∧ (owner ≠ "java/lang/invoke/MethodHandle" ∧ owner ≠ "java/lang/invoke/VarHandle") ∧ (parseMethodDescriptor x.desc).map (fun d => d.parameters.length) = some n ∧ Cond.instanceMethod ⟨owner, x.name, x.desc⟩ ∈ TW ∧ (∃ b m r, Cond.code ⟨owner, x.name, x.desc⟩ b m r ∈ TW) ∧ LkB own idx M n
theorem lk_J0_549 : LkO "java/lang/String" 549 "java/lang/StringBuilder" "java/lang/AbstractStringBuilder" ⟨"java/lang/AbstractStringBuilder", "length", "()I"⟩ m_J4_length_8abf5 0 := ⟨TW_of (i := 946) (by decide +kernel) (by decide +kernel), TW_of (i := 948) (by decide +kernel) (by decide +kernel), TW_of (i := 949) (by decide +kernel) (by decide +kernel), TW_of (i := 950) (by decide +kernel) (by decide +kernel), ⟨by decide +kernel, by decide +kernel⟩, by decide +kernel, TW_of (i := 947) (by decide +kernel) (by decide +kernel), ⟨cJ5_length_8abf5, 1, some .int, TW_of (i := 953) (by decide +kernel) (by decide +kernel)⟩, lb_J4_length_8abf5 _ _⟩
section MkR
variable {X : XT} {D : DT} {cc : ByteArray} {own : String} {nL c w : Nat} {G : GT} {I : IT} {L : LT} {pc : Nat} {ls st stk : List Value} {l0 : Launch} {P : Res → GT → IT → LT → Prop} {d mc ms d' mc' ms' : Nat}
theorem r_callO (hX : OK X D cc own nL) (hroom : Room2 X l0 D d mc ms) {M : MD} {idx n b : Nat} {C owner : String} {x : MethodName} {As : List Value} (hM : Con l0 D M d' (.ref b :: As) mc' ms' G I L P) (hq : Quiet P) (lk : LkO own idx C owner x M n) (hrc : RC G C b) (dd : decode cc pc = .ok (.invokevirtual idx, 3)) (hn : As.length = n) (hs : stk = As.reverse ++ .ref b :: st) (hcat : (st.map fun v => v.category).sum ≤ 8) (hd : d' + 1 ≤ d) (h1 : c + mc' ≤ mc) (h2 : w + ms' ≤ ms)
    (kret : ∀ v G' I' L', P (.inl v) G' I' L' → J X D nL (c + mc') (w + ms') G' I' L' (pc + 3) ls (v.toList ++ st)) : J X D nL c w G I L pc ls stk := by
  obtain ⟨p, l, e, R, s, m, args, below, meth, c0, Q⟩ := X
  intro H locs lsA hR hz hl hL
  subst hs
  obtain ⟨y, bytes, maxL, ret⟩ := M
  obtain ⟨k1, k2, k3, k5, k6, k7, k8, ⟨b0, m0, r0, k9⟩, g1, g2, g3, g4, g5⟩ := lk
  obtain ⟨hx, hby, hml, hown, hts, hF, -, hsz, h0⟩ := id hX
  obtain ⟨rfl, R1, R2, R3, R4, R5⟩ := id hroom
  rw [map_call]
  have hg5 : maxL ≤ 40 := g5
  have cu : va_CU R s args own C owner idx x y bytes maxL ret (Cond.code y bytes maxL ret :: TW) (rmD d' mc' ms') mc' ms' n := ⟨⟨rfl, rfl, by show d' + 1 ≤ R.frames; omega, by show 8 + (maxL + 11) + (64 * d' + 64) ≤ R.locals; omega, code_words hts g2, List.mem_cons_self⟩, hts _ g2, hts _ g1, k6, fun sig hsg => by
    rw [hsg] at k7
    exact (Option.some.inj k7).symm, hts _ k1, hts _ k2, va_Decl.of (hts _ k8) (hts _ k9), hts _ k3, hts _ k5⟩
  refine J.callM (a := (Value.ref (ta D b) :: As.map (tv D)).toArray) (st := st) (va_runU (own := own) (As := As.map (tv D)) (b := ta D b) (rest := st.map (tv D)) ⟨hx, hby, hml, hown, hts⟩ (hM.met hq) cu ⟨PcM.blind, RC.cell hF h0 hsz hR hrc, fun U hU hW => ⟨rfl, by rw [hU]; exact hR, hF.moved hW⟩⟩ rfl (by rw [List.length_map]; exact hn) (by show lsA.size = nL; exact hL.2.1) rfl ?_ dd ⟨by omega, by omega⟩) hz hl hL kret
  rw [map_cat]
  show 2 * 0 + _ ≤ 8
  omega
theorem r_Oi (hX : OK X D cc own nL) (hroom : Room2 X l0 D d mc ms) {M : MD} {idx n b : Nat} {C owner : String} {x : MethodName} {As : List Value} {v : Int32} (hM : Con l0 D M d' (.ref b :: As) 0 0 G I L (PqI G I L v)) (lk : LkO own idx C owner x M n) (hrc : RC G C b) (dd : decode cc pc = .ok (.invokevirtual idx, 3)) (hn : As.length = n) (hs : stk = As.reverse ++ .ref b :: st) (hcat : (st.map fun v => v.category).sum ≤ 8) (hd : d' + 1 ≤ d) (h1 : c ≤ mc) (h2 : w ≤ ms) (k : J X D nL c w G I L (pc + 3) ls (.int v :: st)) : J X D nL c w G I L pc ls stk :=
  r_callO hX hroom hM Pq.quiet lk hrc dd hn hs hcat hd h1 h2 (fun v' G' I' L' h => by obtain ⟨rfl, rfl, v2, hv, rfl, rfl⟩ := h; cases hv; exact k)
theorem r_Ur (hX : OK X D cc own nL) (hroom : Room2 X l0 D d mc ms) {M : MD} {idx n b : Nat} {C owner : String} {x : MethodName} {As : List Value} {v : Nat} (hM : Con l0 D M d' (.ref b :: As) 0 0 G I L (Pq G L fun r I' => r = some (.ref v) ∧ I' = I)) (lk : LkU own idx C owner x M n) (hrc : RC G C b) (dd : decode cc pc = .ok (.invokevirtual idx, 3)) (hn : As.length = n) (hs : stk = As.reverse ++ .ref b :: st) (hcat : (st.map fun v => v.category).sum ≤ 8) (hd : d' + 1 ≤ d) (h1 : c ≤ mc) (h2 : w ≤ ms) (k : J X D nL c w G I L (pc + 3) ls (.ref v :: st)) : J X D nL c w G I L pc ls stk :=
  r_Uq hX hroom hM lk hrc dd hn hs hcat hd h1 h2 (fun r I' h => by obtain ⟨rfl, rfl⟩ := h; exact k)
/-- an object is none of longs or doubles -/
theorem J.lnewO {ci : Nat} (hci : ci < 20) (k : J X D nL c w (gNew G ci 0) I L pc ls st) : J X D nL c w (gNew G ci 0) I (lNew G L) pc ls st := by
  obtain ⟨p, l, e, R, s, m, args, below, meth, c0, Q⟩ := X
  intro H locs lsA hR hz hl hL
  refine k H locs lsA ⟨hR.1, hR.2.1, hR.2.2.1, fun q hq => ?_⟩ hz hl hL
  have hc := hR.2.2.2 q hq
  by_cases e : q = G.1
  · subst e
    have hs : (gNew G ci 0).2.1 G.1 = (ci, 0) := if_pos rfl
    obtain ⟨r, h1, h2⟩ := hc.ob hs hci
    exact CR.to_ob hs hci h1 h2
  · exact hc.kept rfl rfl rfl (if_neg e).symm (if_neg e).symm rfl
theorem r_newO (hX : OK X D cc own nL) {idx ci N : Nat} (hroom : Room2 X l0 D d mc ms) (gf : NW own idx ci N) (hci : ci < 20) (dd : decode cc pc = .ok (.new idx, 3)) (h1 : c + 1 ≤ mc) (h2 : w + N ≤ ms) (hb : G.1 + 1 < 1000000) (k : J X D nL (c + 1) (w + N) (gNew G ci 0) (iNew G I) L (pc + 3) ls (.ref G.1 :: st)) : J X D nL c w G I L pc ls st :=
  r_new hX hroom gf dd h1 h2 hb (J.lnewO hci k)
end MkR
/-- the same text, where some cells more stand -/
theorem LB.rb {b : Nat} {G G1 : GT} {Z : ZT} {I I1 : IT} {v cap n : Nat} (h : LB b G Z I v cap n) (h1 : G.1 ≤ G1.1) (h2 : ∀ k, k < G.1 → G1.2.1 k = G.2.1 k) (h3 : ∀ k, k < G.1 → G1.2.2 k = G.2.2 k) (h4 : ∀ k, k < G.1 → I1 k = I k) : LB b G1 ((G1, I1, v), Z.2) I1 v cap n := by
  have hb := h.lt
  have hv := h.vlt
  refine ⟨⟨Nat.lt_of_lt_of_le hb h1, Nat.le_refl _, fun _ _ => rfl, fun _ _ _ => rfl, fun _ _ _ _ => rfl, Or.inl rfl⟩, ⟨Nat.le_trans (Nat.le_trans h.2.1.1 h.1.2.1) h1, h.2.1.2.1, (h2 b hb).trans h.sh⟩, by rw [h3 b hb]; exact h.val, Nat.lt_of_lt_of_le hv h1, (h2 v hv).trans h.vsh, by rw [h4 b hb]; exact h.cod, by rw [h4 b hb]; exact h.cnt, h.len, h.le, h.c320, h.n150, ?_, ?_⟩
  · rw [h4 v hv]; exact h.byt
  · rw [h4 v hv]; exact h.ltr0
/-- what a constructor of a StringBuilder leaves -/
def MKB (a : Nat) (G : GT) (I : IT) (L : LT) : Res → GT → IT → LT → Prop := fun r G' I' L' => r = .inl none ∧ L' = L ∧ G' = gPut (gNew G 20 16) a 0 (some G.1) ∧ I' = up2 (iNew G I) a 1 0
theorem MKB.quiet {a : Nat} {G : GT} {I : IT} {L : LT} : Quiet (MKB a G I L) := fun _ _ _ _ h => by obtain ⟨h, -⟩ := h; cases h
/-- an array's first n bytes anew -/
def CPR (G : GT) (I : IT) (L : LT) (v n : Nat) : Res → GT → IT → LT → Prop := fun r G' I' L' => r = .inl (some (.ref G.1)) ∧ L' = L ∧ G' = gNew G 20 n ∧ (∀ k, k ≠ G.1 → I' k = I k) ∧ ∀ j, j < n → I' G.1 j = I v j
theorem CPR.quiet {G : GT} {I : IT} {L : LT} {v n : Nat} : Quiet (CPR G I L v n) := fun _ _ _ _ h => by obtain ⟨h, -⟩ := h; cases h
/-- what a String's constructor leaves -/
def MKS (s : Nat) (G : GT) (I : IT) (L : LT) (v n : Nat) : Res → GT → IT → LT → Prop := fun r G' I' L' => r = .inl none ∧ L' = L ∧ G' = gPut (gNew G 20 n) s 0 (some G.1) ∧ (∀ k, k ≠ s → k ≠ G.1 → I' k = I k) ∧ I' s 1 = 0 ∧ ∀ j, j < n → I' G.1 j = I v j
theorem MKS.quiet {s : Nat} {G : GT} {I : IT} {L : LT} {v n : Nat} : Quiet (MKS s G I L v n) := fun _ _ _ _ h => by obtain ⟨h, -⟩ := h; cases h
section JdkM
variable {l0 : Launch} {D : DT} {G : GT} {Z : ZT} {I : IT} {L : LT} {a b v cap n : Nat}
set_option maxRecDepth 100000 in
set_option maxHeartbeats 4000000 in
theorem c_J5_init (ha : a < G.1) (hsa : G.2.1 a = (1, 0)) (hb : G.1 + 1 < 1000000) : Con l0 D m_J5_init_d00df 2 [.ref a, .int (nI 16)] 1 16 G I L (MKB a G I L) := by
  refine Con.of (by decide +kernel) (by simp [Value.category]) (Nat.le_of_ble_eq_true rfl) (Or.inr hb) (fun X hX hT _ => ?_)
  have hX : OK X D cJ5_init_d00df "java/lang/AbstractStringBuilder" 2 := hX
  have hR := RT.room hT
  change J X D 2 0 0 _ _ _ 0 [.ref a, .int (nI 16)] []
  have hne : a ≠ G.1 := Nat.ne_of_lt ha
  refine r_aload_n hX dJ5_init_d00df_0 rfl ?_
  refine r_objInit hX hR oi_J5_3 w_oi1 w_oi2 dJ5_init_d00df_1 (Nat.le_of_ble_eq_true rfl) (by decide) ?_
  refine r_gets hX hq_cs gs_J5_18 dJ5_init_d00df_4 ?_
  refine r_if_eq hX dJ5_init_d00df_7 (tgt := 25) (by decide) (fun h => absurd h one_ne) (fun _ => ?_)
  refine r_aload_n hX dJ5_init_d00df_10 rfl ?_
  refine r_iload_n hX dJ5_init_d00df_11 rfl ?_
  refine r_newaB hX hR dJ5_init_d00df_12 rfl (by decide) (by decide) (by decide) hb ?_
  refine r_putR (z := 0) hX pf_J5_15 rfl dJ5_init_d00df_14 (show a < G.1 + 1 by omega) ((if_neg hne).trans hsa) (Or.inr ⟨_, rfl⟩) ?_
  refine r_aload_n hX dJ5_init_d00df_17 rfl ?_
  refine r_iconst hX dJ5_init_d00df_18 (v := 0) (by decide) ?_
  refine r_putI (z := 0) hX pf_J5_22 rfl dJ5_init_d00df_19 (show a < G.1 + 1 by omega) ((if_neg hne).trans hsa) (by decide) (by decide) ?_
  refine r_goto hX dJ5_init_d00df_22 (tgt := 38) (by decide) ?_
  exact r_vret hX hT dJ5_init_d00df_38 ⟨rfl, rfl, rfl, rfl⟩ (by decide) (by decide)
set_option maxRecDepth 100000 in
set_option maxHeartbeats 4000000 in
theorem c_J4_init (ha : a < G.1) (hsa : G.2.1 a = (1, 0)) (hb : G.1 + 1 < 1000000) : Con l0 D m_J4_init_da8c8 3 [.ref a] 1 16 G I L (MKB a G I L) := by
  refine Con.of (by decide +kernel) (by simp [Value.category]) (Nat.le_of_ble_eq_true rfl) (Or.inr hb) (fun X hX hT _ => ?_)
  have hX : OK X D cJ4_init_da8c8 "java/lang/StringBuilder" 1 := hX
  have hR := RT.room hT
  change J X D 1 0 0 _ _ _ 0 [.ref a] []
  refine r_aload_n hX dJ4_init_da8c8_0 rfl ?_
  refine r_bipush hX dJ4_init_da8c8_1 (v := nI 16) (by decide) ?_
  refine r_callI (y := yJ5_init_d00df) (bytes := cJ5_init_d00df) (maxL := 2) (As := [.int (nI 16)]) hX hR (c_J5_init ha hsa hb) MKB.quiet lk_J4_1 dJ4_init_da8c8_3 rfl rfl (Nat.le_of_ble_eq_true rfl) (by decide) (by decide) (by decide) ?_
  rintro r G' I' L' ⟨e1, rfl, rfl, rfl⟩
  cases e1
  exact r_vret hX hT dJ4_init_da8c8_6 ⟨rfl, rfl, rfl, rfl⟩ (by decide) (by decide)
set_option maxRecDepth 100000 in
set_option maxHeartbeats 4000000 in
theorem c_J5_getValue (hB : LB b G Z I v cap n) : Con l0 D m_J5_getValue_6d5f1 1 [.ref b] 0 0 G I L (Pq G L fun r I' => r = some (.ref v) ∧ I' = I) := by
  refine Con.of (by decide +kernel) (by simp [Value.category]) (Nat.le_of_ble_eq_true rfl) (Or.inl rfl) (fun X hX hT _ => ?_)
  have hX : OK X D cJ5_getValue_6d5f1 "java/lang/AbstractStringBuilder" 1 := hX
  have hR := RT.room hT
  change J X D 1 0 0 _ _ _ 0 [.ref b] []
  refine r_aload_n hX dJ5_getValue_6d5f1_0 rfl ?_
  refine r_getR hX gf_J5_15 rfl dJ5_getValue_6d5f1_1 hB.lt hB.sh hB.val ?_
  exact r_aretQ hX hT dJ5_getValue_6d5f1_4 (Or.inr ⟨_, rfl⟩) ⟨rfl, rfl⟩ (by decide) (by decide)
set_option maxRecDepth 100000 in
set_option maxHeartbeats 4000000 in
theorem c_J4_length (hB : LB b G Z I v cap n) : Con l0 D m_J4_length_8abf5 8 [.ref b] 0 0 G I L (PqI G I L (nI n)) := by
  refine Con.of (by decide +kernel) (by simp [Value.category]) (Nat.le_of_ble_eq_true rfl) (Or.inl rfl) (fun X hX hT _ => ?_)
  have hX : OK X D cJ4_length_8abf5 "java/lang/StringBuilder" 1 := hX
  have hR := RT.room hT
  change J X D 1 0 0 _ _ _ 0 [.ref b] []
  refine r_aload_n hX dJ4_length_8abf5_0 rfl ?_
  refine r_SUi (As := []) hX hR (c_J5_length hB) lk_J4_343 hB.lt hB.sh (by decide) rfl dJ4_length_8abf5_1 rfl rfl (Nat.le_of_ble_eq_true rfl) (by decide) (by first | decide | omega) (by first | decide | omega) ?_
  exact r_iretI hX hT dJ4_length_8abf5_4 rfl (by decide) (by decide)
set_option maxRecDepth 100000 in
set_option maxHeartbeats 4000000 in
theorem c_J7_check (hn : n < 2 ^ 31) : Con l0 D m_J7_checkLength_df160 1 [.int (nI 0), .int (nI n)] 0 0 G I L (PqV G I L) := by
  refine Con.of (by decide +kernel) (by simp [Value.category]) (Nat.le_of_ble_eq_true rfl) (Or.inl rfl) (fun X hX hT _ => ?_)
  have hX : OK X D cJ7_checkLength_df160 "java/util/Arrays" 2 := hX
  have hR := RT.room hT
  change J X D 2 0 0 _ _ _ 0 [.int (nI 0), .int (nI n)] []
  refine r_iload_n hX dJ7_checkLength_df160_0 rfl ?_
  refine r_iload_n hX dJ7_checkLength_df160_1 rfl ?_
  refine r_icmp_ge hX dJ7_checkLength_df160_2 (tgt := 37) (by decide) (fun _ => ?_) (fun h => absurd (nI_le (Nat.zero_le n) hn) h)
  exact r_vretV hX hT dJ7_checkLength_df160_37 (by decide) (by decide)
set_option maxRecDepth 100000 in
set_option maxHeartbeats 4000000 in
theorem c_J7_cprB (hv : v < G.1) (hs : G.2.1 v = (20, cap)) (hc : n ≤ cap) (hN : cap ≤ 320) (hn : n ≤ 150) (hby : ∀ j, j < cap → -128 ≤ (I v j).toInt ∧ (I v j).toInt < 128) (hb : G.1 + 1 < 1000000) : Con l0 D m_J7_copyOfRangeByte_39247 2 [.ref v, .int (nI 0), .int (nI n)] 1 150 G I L (CPR G I L v n) := by
  refine Con.of (by decide +kernel) (by simp [Value.category]) (Nat.le_of_ble_eq_true rfl) (Or.inr hb) (fun X hX hT _ => ?_)
  have hX : OK X D cJ7_copyOfRangeByte_39247 "java/util/Arrays" 5 := hX
  have hR := RT.room hT
  change J X D 5 0 0 _ _ _ 0 [.ref v, .int (nI 0), .int (nI n), .retAddr 0, .retAddr 0] []
  have hne : v ≠ G.1 := Nat.ne_of_lt hv
  have hs2 : (gNew G 20 n).2.1 v = (20, cap) := (if_neg hne).trans hs
  have hs3 : (gNew G 20 n).2.1 G.1 = (20, n) := if_pos rfl
  have hl2 : v < (gNew G 20 n).1 := by show v < G.1 + 1; omega
  have hl3 : G.1 < (gNew G 20 n).1 := by show G.1 < G.1 + 1; omega
  have hiv : iNew G I v = I v := if_neg hne
  refine r_iload_n hX dJ7_copyOfRangeByte_39247_0 rfl ?_
  refine r_iload_n hX dJ7_copyOfRangeByte_39247_1 rfl ?_
  refine r_Sv (As := [.int (nI 0), .int (nI n)]) hX hR (c_J7_check (by omega)) lk_J7_343 dJ7_copyOfRangeByte_39247_2 rfl rfl (Nat.le_of_ble_eq_true rfl) (by decide) (by first | decide | omega) (by first | decide | omega) ?_
  refine r_iload_n hX dJ7_copyOfRangeByte_39247_5 rfl ?_
  refine r_iload_n hX dJ7_copyOfRangeByte_39247_6 rfl ?_
  refine r_isub hX dJ7_copyOfRangeByte_39247_7 ?_
  rw [n_sub (Nat.zero_le n), Nat.sub_zero]
  refine r_istore_n hX dJ7_copyOfRangeByte_39247_8 (by decide) rfl ?_
  refine r_iload_n hX dJ7_copyOfRangeByte_39247_9 rfl ?_
  refine r_newaB hX hR dJ7_copyOfRangeByte_39247_10 rfl (by omega) (by decide) (by omega) hb ?_
  refine r_astore hX dJ7_copyOfRangeByte_39247_12 (by decide) rfl ?_
  refine r_aload_n hX dJ7_copyOfRangeByte_39247_14 rfl ?_
  refine r_iload_n hX dJ7_copyOfRangeByte_39247_15 rfl ?_
  refine r_aload hX dJ7_copyOfRangeByte_39247_16 rfl ?_
  refine r_iconst hX dJ7_copyOfRangeByte_39247_18 (v := nI 0) (by decide) ?_
  refine r_aload_n hX dJ7_copyOfRangeByte_39247_19 rfl ?_
  refine r_alen (t := 0) hX dJ7_copyOfRangeByte_39247_20 hl2 hs2 (by decide) ?_
  refine r_iload_n hX dJ7_copyOfRangeByte_39247_21 rfl ?_
  refine r_isub hX dJ7_copyOfRangeByte_39247_22 ?_
  rw [n_sub (Nat.zero_le cap), Nat.sub_zero]
  refine r_iload_n hX dJ7_copyOfRangeByte_39247_23 rfl ?_
  refine r_min hX hR mm_J7_304 w_min1 w_math w_min2 dJ7_copyOfRangeByte_39247_24 (Nat.le_of_ble_eq_true rfl) (by decide) (by decide) (by omega) ?_
  have hmin : (if nI n < nI cap then nI n else nI cap) = nI n := by
    by_cases q : n < cap
    · rw [if_pos (nI_lt q (by omega))]
    · rw [if_neg (nI_nlt (by omega) (by omega)), show cap = n by omega]
  rw [hmin]
  refine r_acopy hX hR tw_acJ7 (Or.inl ⟨hl2, hs2, rfl⟩) hl3 hs3 (by omega) (by omega) (by omega) (by omega) (fun i hi => ?_) dJ7_copyOfRangeByte_39247_27 (Nat.le_of_ble_eq_true rfl) (by decide) ?_
  · rw [hiv, Nat.zero_add]; exact fits_b (hby i (by omega)).1 (hby i (by omega)).2
  refine r_aload hX dJ7_copyOfRangeByte_39247_30 rfl ?_
  refine r_aret hX hT dJ7_copyOfRangeByte_39247_32 (Or.inr ⟨_, rfl⟩) ⟨rfl, rfl, rfl, fun k hk => ?_, fun j hj => ?_⟩ (by decide) (by omega)
  · rw [up1_n hk]; exact if_neg hk
  · rw [up1_s, hiv]
    refine (if_pos (by omega)).trans ?_
    congr 1; omega
set_option maxRecDepth 100000 in
set_option maxHeartbeats 4000000 in
theorem c_J7_cpr (hv : v < G.1) (hs : G.2.1 v = (20, cap)) (hc : n ≤ cap) (hN : cap ≤ 320) (hn : n ≤ 150) (hby : ∀ j, j < cap → -128 ≤ (I v j).toInt ∧ (I v j).toInt < 128) (hb : G.1 + 1 < 1000000) : Con l0 D m_J7_copyOfRange_39247 3 [.ref v, .int (nI 0), .int (nI n)] 1 150 G I L (CPR G I L v n) := by
  refine Con.of (by decide +kernel) (by simp [Value.category]) (Nat.le_of_ble_eq_true rfl) (Or.inr hb) (fun X hX hT _ => ?_)
  have hX : OK X D cJ7_copyOfRange_39247 "java/util/Arrays" 3 := hX
  have hR := RT.room hT
  change J X D 3 0 0 _ _ _ 0 [.ref v, .int (nI 0), .int (nI n)] []
  refine r_iload_n hX dJ7_copyOfRange_39247_0 rfl ?_
  refine r_if_ne hX dJ7_copyOfRange_39247_1 (tgt := 10) (by decide) (fun h => absurd nI_0 h) (fun _ => ?_)
  refine r_iload_n hX dJ7_copyOfRange_39247_4 rfl ?_
  refine r_aload_n hX dJ7_copyOfRange_39247_5 rfl ?_
  refine r_alen (t := 0) hX dJ7_copyOfRange_39247_6 hv hs (by decide) ?_
  refine r_icmp_eq hX dJ7_copyOfRange_39247_7 (tgt := 17) (by decide) (fun h => ?_) (fun _ => ?_)
  · have e : n = cap := (nI_eq (by omega) (by omega)).mp h
    subst e
    refine r_aload_n hX dJ7_copyOfRange_39247_17 rfl ?_
    refine r_cloneB hX hR hv hs hby dJ7_copyOfRange_39247_18 (Nat.le_of_ble_eq_true rfl) (by decide) (by decide) (by omega) hb ?_
    refine r_castB (N := n) hX (show G.1 < G.1 + 1 by omega) (if_pos rfl) dJ7_copyOfRange_39247_21 ?_
    refine r_aret hX hT dJ7_copyOfRange_39247_24 (Or.inr ⟨_, rfl⟩) ⟨rfl, rfl, rfl, fun k hk => ?_, fun j hj => ?_⟩ (by decide) (by omega)
    · rw [up1_n hk]; exact if_neg hk
    · rw [up1_s]
  · refine r_aload_n hX dJ7_copyOfRange_39247_10 rfl ?_
    refine r_iload_n hX dJ7_copyOfRange_39247_11 rfl ?_
    refine r_iload_n hX dJ7_copyOfRange_39247_12 rfl ?_
    refine r_callS (As := [.ref v, .int (nI 0), .int (nI n)]) hX hR (c_J7_cprB hv hs hc hN hn hby hb) lk_J7_339 dJ7_copyOfRange_39247_13 rfl rfl (Nat.le_of_ble_eq_true rfl) (by decide) (by decide) (by decide) ?_ ?_
    · rintro r G' I' L' ⟨e1, rfl, rfl, e4, e5⟩
      cases e1
      exact r_aret hX hT dJ7_copyOfRange_39247_16 (Or.inr ⟨_, rfl⟩) ⟨rfl, rfl, rfl, e4, e5⟩ (by decide) (by decide)
    · exact fun E G' I' L' h => absurd h (CPR.quiet _ _ _ _)
set_option maxRecDepth 100000 in
set_option maxHeartbeats 4000000 in
theorem c_J0_init2 {s : Nat} (hB : LB b G Z I v cap n) (hs : s < G.1) (hss : G.2.1 s = (0, 0)) (hb : G.1 + 1 < 1000000) : Con l0 D m_J0_init_db425 9 [.ref s, .ref b, .null] 1 150 G I L (MKS s G I L v n) := by
  refine Con.of (by decide +kernel) (by simp [Value.category]) (Nat.le_of_ble_eq_true rfl) (Or.inr hb) (fun X hX hT hI0 => ?_)
  have hX : OK X D cJ0_init_db425 "java/lang/String" 5 := hX
  have hI1 := hI0 rfl
  have hR := RT.room hT
  change J X D 5 0 0 _ _ _ 0 [.ref s, .ref b, .null, .retAddr 0, .retAddr 0] []
  have hvs : v ≠ s := by
    rintro rfl
    have := hB.vsh
    rw [hss] at this
    cases this
  have hG : s ≠ G.1 := Nat.ne_of_lt hs
  have hvl := hB.vlt
  refine r_aload_n hX dJ0_init_db425_0 rfl ?_
  refine r_objInit hX hR oi_J0_1 w_oi1 w_oi2 dJ0_init_db425_1 (Nat.le_of_ble_eq_true rfl) (by decide) ?_
  refine r_aload_n hX dJ0_init_db425_4 rfl ?_
  refine r_Ur (As := []) hX hR (c_J5_getValue hB) lk_J0_552 hB.rc dJ0_init_db425_5 rfl rfl (Nat.le_of_ble_eq_true rfl) (by decide) (by decide) (by decide) ?_
  refine r_astore_n hX dJ0_init_db425_8 (by decide) rfl ?_
  refine r_aload_n hX dJ0_init_db425_9 rfl ?_
  refine r_Oi (As := []) hX hR (c_J4_length hB) lk_J0_549 hB.rc dJ0_init_db425_10 rfl rfl (Nat.le_of_ble_eq_true rfl) (by decide) (by decide) (by decide) ?_
  refine r_istore hX dJ0_init_db425_13 (by decide) rfl ?_
  refine r_aload_n hX dJ0_init_db425_15 rfl ?_
  refine r_Ui (As := []) hX hR (c_J5_isL hB) lk_J0_1047 hB.rc dJ0_init_db425_16 rfl rfl (Nat.le_of_ble_eq_true rfl) (by decide) (by decide) (by decide) ?_
  refine r_if_eq hX dJ0_init_db425_19 (tgt := 41) (by decide) (fun h => absurd h (by decide)) (fun _ => ?_)
  refine r_aload_n hX dJ0_init_db425_22 rfl ?_
  refine r_iconst hX dJ0_init_db425_23 (v := 0) (by decide) ?_
  refine r_putFI hX hI1 ff_J0_15 rfl dJ0_init_db425_24 hs hss (by decide) (by decide) ?_
  have hup : up2 I s 1 0 v = I v := up2_ne hvs
  refine r_aload_n hX dJ0_init_db425_27 rfl ?_
  refine r_aload_n hX dJ0_init_db425_28 rfl ?_
  refine r_iconst hX dJ0_init_db425_29 (v := nI 0) (by decide) ?_
  refine r_iload hX dJ0_init_db425_30 rfl ?_
  refine r_callS (As := [.ref v, .int (nI 0), .int (nI n)]) hX hR (c_J7_cpr hvl hB.vsh hB.le hB.c320 hB.n150 (by rw [hup]; exact hB.byt) hb) lk_J0_54 dJ0_init_db425_32 rfl rfl (Nat.le_of_ble_eq_true rfl) (by decide) (by decide) (by decide) ?_ ?_
  · rintro r G' I' L' ⟨e1, rfl, rfl, e4, e5⟩
    cases e1
    refine r_putF hX hI1 ff_J0_9 rfl dJ0_init_db425_35 (show s < G.1 + 1 by omega) ((if_neg hG).trans hss) (Or.inr ⟨_, rfl⟩) ?_
    refine r_goto hX dJ0_init_db425_38 (tgt := 97) (by decide) ?_
    refine r_vret hX hT dJ0_init_db425_97 ⟨rfl, rfl, rfl, fun k h1 h2 => ?_, ?_, fun j hj => ?_⟩ (by decide) (by decide)
    · rw [e4 k h2, up2_ne h1]
    · rw [e4 s hG, up2_same]
    · rw [e5 j hj, hup]
  · exact fun E G' I' L' h => absurd h (CPR.quiet _ _ _ _)
set_option maxRecDepth 100000 in
set_option maxHeartbeats 4000000 in
theorem c_J0_init1 {s : Nat} (hB : LB b G Z I v cap n) (hs : s < G.1) (hss : G.2.1 s = (0, 0)) (hb : G.1 + 1 < 1000000) : Con l0 D m_J0_init_81219 10 [.ref s, .ref b] 1 150 G I L (MKS s G I L v n) := by
  refine Con.of (by decide +kernel) (by simp [Value.category]) (Nat.le_of_ble_eq_true rfl) (Or.inr hb) (fun X hX hT _ => ?_)
  have hX : OK X D cJ0_init_81219 "java/lang/String" 2 := hX
  have hR := RT.room hT
  change J X D 2 0 0 _ _ _ 0 [.ref s, .ref b] []
  refine r_aload_n hX dJ0_init_81219_0 rfl ?_
  refine r_aload_n hX dJ0_init_81219_1 rfl ?_
  refine r_null hX dJ0_init_81219_2 ?_
  refine r_callI (y := yJ0_init_db425) (bytes := cJ0_init_db425) (maxL := 5) (As := [.ref b, .null]) hX hR (c_J0_init2 hB hs hss hb) MKS.quiet lk_J0_489 dJ0_init_81219_3 rfl rfl (Nat.le_of_ble_eq_true rfl) (by decide) (by decide) (by decide) ?_
  rintro r G' I' L' ⟨e1, e2⟩
  cases e1
  exact r_vret hX hT dJ0_init_81219_6 ⟨rfl, e2⟩ (by decide) (by decide)
/-- what toString leaves: a new String, its array -/
def TOS (G : GT) (I : IT) (L : LT) (v n : Nat) : Res → GT → IT → LT → Prop := fun r G' I' L' => r = .inl (some (.ref G.1)) ∧ L' = L ∧ G' = gPut (gNew (gNew G 0 0) 20 n) G.1 0 (some (G.1 + 1)) ∧ (∀ k, k < G.1 → I' k = I k) ∧ I' G.1 1 = 0 ∧ ∀ j, j < n → I' (G.1 + 1) j = I v j
theorem TOS.quiet {G : GT} {I : IT} {L : LT} {v n : Nat} : Quiet (TOS G I L v n) := fun _ _ _ _ h => by obtain ⟨h, -⟩ := h; cases h
set_option maxRecDepth 100000 in
set_option maxHeartbeats 4000000 in
theorem c_J4_toS (hB : LB b G Z I v cap n) (hb : G.1 + 2 < 1000000) : Con l0 D m_J4_toString_0e30d 11 [.ref b] 2 170 G I L (TOS G I L v n) := by
  refine Con.of (by decide +kernel) (by simp [Value.category]) (Nat.le_of_ble_eq_true rfl) (Or.inr hb) (fun X hX hT _ => ?_)
  have hX : OK X D cJ4_toString_0e30d "java/lang/StringBuilder" 1 := hX
  have hR := RT.room hT
  change J X D 1 0 0 _ _ _ 0 [.ref b] []
  have hvl := hB.vlt
  have ne : ∀ k, k < G.1 → k ≠ G.1 := fun k hk => Nat.ne_of_lt hk
  have hB1 := hB.rb (G1 := gNew G 0 0) (I1 := iNew G I) (by show G.1 ≤ G.1 + 1; omega) (fun k hk => if_neg (ne k hk)) (fun k hk => if_neg (ne k hk)) (fun k hk => if_neg (ne k hk))
  refine r_newO hX hR nw_J4_18 (by decide) dJ4_toString_0e30d_0 (by decide) (by decide) (by omega) ?_
  refine r_dup hX dJ4_toString_0e30d_3 rfl ?_
  refine r_aload_n hX dJ4_toString_0e30d_4 rfl ?_
  refine r_callI (y := yJ0_init_81219) (bytes := cJ0_init_81219) (maxL := 2) (As := [.ref b]) hX hR (c_J0_init1 (s := G.1) hB1 (show G.1 < G.1 + 1 by omega) (if_pos rfl) (show G.1 + 1 + 1 < 1000000 by omega)) MKS.quiet lk_J4_137 dJ4_toString_0e30d_5 rfl rfl (Nat.le_of_ble_eq_true rfl) (by decide) (by decide) (by decide) ?_
  rintro r G' I' L' ⟨e1, rfl, rfl, e4, e5, e6⟩
  cases e1
  have e4 : ∀ k, k ≠ G.1 → k ≠ G.1 + 1 → I' k = iNew G I k := e4
  have e6 : ∀ j, j < n → I' (G.1 + 1) j = iNew G I v j := e6
  refine r_aret hX hT dJ4_toString_0e30d_8 (Or.inl ⟨_, rfl⟩) ⟨rfl, rfl, rfl, fun k hk => ?_, e5, fun j hj => ?_⟩ (by decide) (by decide)
  · rw [e4 k (by omega) (by omega)]; exact if_neg (ne k hk)
  · rw [e6 j hj]
    exact congrFun (if_neg (ne v hvl)) j
end JdkM
