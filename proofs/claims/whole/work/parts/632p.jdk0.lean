/-! ===== the library's own code: what its walks need ===== -/
theorem tw_acJ7 : Cond.methodLink "java/util/Arrays" 150 arraycopyName ∈ TW := TW_of (i := 893) (by decide +kernel) (by decide +kernel)
theorem tw_acJ0 : Cond.methodLink "java/lang/String" 212 arraycopyName ∈ TW := TW_of (i := 968) (by decide +kernel) (by decide +kernel)
theorem tw_acS : Cond.static arraycopyName ∈ TW := TW_of (i := 894) (by decide +kernel) (by decide +kernel)
theorem tw_acN : Cond.native arraycopyName ∈ TW := TW_of (i := 895) (by decide +kernel) (by decide +kernel)
theorem tw_acI : Cond.initialized "java/lang/System" ∈ TW := TW_of (i := 104) (by decide +kernel) (by decide +kernel)
theorem tw_f2iL : Cond.methodLink "java/lang/Float" 74 ⟨"java/lang/Float", "floatToRawIntBits", "(F)I"⟩ ∈ TW := TW_of (i := 1879) (by decide +kernel) (by decide +kernel)
theorem tw_f2iS : Cond.static ⟨"java/lang/Float", "floatToRawIntBits", "(F)I"⟩ ∈ TW := TW_of (i := 1880) (by decide +kernel) (by decide +kernel)
theorem tw_f2iN : Cond.native ⟨"java/lang/Float", "floatToRawIntBits", "(F)I"⟩ ∈ TW := TW_of (i := 1881) (by decide +kernel) (by decide +kernel)
theorem sh0r (x : Int32) : x >>> ((0 : Int32) &&& 31) = x := by rw [show ((0 : Int32) &&& 31) = 0 by decide]; simp
theorem sh0l (x : Int32) : x <<< ((0 : Int32) &&& 31) = x := by rw [show ((0 : Int32) &&& 31) = 0 by decide]; simp
theorem fits_b {x : Int32} (h1 : -128 ≤ x.toInt) (h2 : x.toInt < 128) : fits .byte (.int x) = true := by
  have e1 : (-128 : Int32) ≤ x := by rw [Int32.le_iff_toInt_le]; exact h1
  have e2 : x ≤ (127 : Int32) := by rw [Int32.le_iff_toInt_le]; show x.toInt ≤ 127; omega
  simp only [fits, Bool.and_eq_true, decide_eq_true_eq]
  exact ⟨e1, e2⟩
/-- one cell's values anew -/
def up1 (I : IT) (a : Nat) (g : Nat → Int32) : IT := fun k => if k = a then g else I k
theorem up1_s {I : IT} {a : Nat} {g : Nat → Int32} : up1 I a g a = g := if_pos rfl
theorem up1_n {I : IT} {a k : Nat} {g : Nat → Int32} (h : k ≠ a) : up1 I a g k = I k := if_neg h
/-- bytes that lie somewhere: in an array of ours, or in a constant -/
def SRC (G : GT) (I : IT) (b n0 : Nat) (f : Nat → Int32) : Prop := (b < G.1 ∧ G.2.1 b = (20, n0) ∧ f = I b) ∨ ∃ code vs, b = 1000000 + code ∧ (FieldType.byte, code, n0, vs) ∈ cT ∧ ∀ j, j < n0 → vp_V vs j = .int (f j)
theorem SRC.t {D : DT} {G : GT} {I : IT} {L : LT} {H : Heap} {s : State} {b n0 : Nat} {f : Nat → Int32} (hF : Facts D s) (h0 : ∀ q, q < D.1 → s.heap[q]? = D.2.1[q]?) (hR : Rel D G I L H) (hz : s.heap.size ≤ H.size) (h : SRC G I b n0 f) : va_T .byte (ta D b) n0 (fun j => .int (f j)) (fun _ => False) s H := by
  rcases h with ⟨hb, hs, rfl⟩ | ⟨code, vs, rfl, hq, hv⟩
  · obtain ⟨h1, h2⟩ := arr_rd (t := 0) hF (hR.2.2.2 b hb) hs (by omega)
    have h1 : H[D.1 + b]? = some (arrV (D.2.2.2.2.1 0) n0 (fun q => .int (I b q))) := h1
    rw [hR.ta hb]
    exact ⟨_, h1, h2 n0 _, (fun q => by cases q), by rw [arrV_size]; exact Nat.le_refl _, by rw [arrV_size], fun j hj => arrV_read _ _ hj, fun q => q⟩
  · have hS := Facts.S (locs := []) h0 hR hz (fun q h => by cases h)
    obtain ⟨cell, g1, g2, g3, g4, g5, g6, g7⟩ := ((hF.2.2.2.2.1 _ hq).kept (old_kept h0)).kept hS.2.1
    exact ⟨cell, g1, g2, g3, g4, g5, fun j hj => by rw [g6 j hj]; show some (tv D (vp_V vs j)) = _; rw [hv j hj]; rfl, fun q => q⟩
/-- an array of bytes is none of longs or doubles -/
theorem J.lnew {X : XT} {D : DT} {nL c w n : Nat} {G : GT} {I : IT} {L : LT} {pc : Nat} {ls st : List Value} (k : J X D nL c w (gNew G 20 n) I L pc ls st) : J X D nL c w (gNew G 20 n) I (lNew G L) pc ls st := by
  obtain ⟨p, l, e, R, s, m, args, below, meth, c0, Q⟩ := X
  intro H locs lsA hR hz hl hL
  refine k H locs lsA ⟨hR.1, hR.2.1, hR.2.2.1, fun q hq => ?_⟩ hz hl hL
  have hc := hR.2.2.2 q hq
  by_cases e : q = G.1
  · subst e
    have hs : (gNew G 20 n).2.1 G.1 = (20 + 0, n) := if_pos rfl
    exact CR.to_ar (t := 0) hs (by omega) (hc.ar (t := 0) hs (by omega))
  · exact hc.kept rfl rfl rfl (if_neg e).symm (if_neg e).symm rfl
section JRules
variable {X : XT} {D : DT} {cc : ByteArray} {own : String} {nL c w : Nat} {G : GT} {I : IT} {L : LT} {pc : Nat} {ls st stk : List Value} {l0 : Launch} {d mc ms d' : Nat}
theorem r_newaB (hX : OK X D cc own nL) {N : Nat} {x : Int32} (hroom : Room2 X l0 D d mc ms) (dd : decode cc pc = .ok (.newarray .byte, 2)) (hx2 : x = nI N) (hN : N < 100000) (h1 : c + 1 ≤ mc) (h2 : w + N ≤ ms) (hb : G.1 + 1 < 1000000) (k : J X D nL (c + 1) (w + N) (gNew G 20 N) (iNew G I) L (pc + 2) ls (.ref G.1 :: st)) : J X D nL c w G I L pc ls (.int x :: st) :=
  r_newa hX (t := 0) hroom rfl (by omega) (by omega) w_arr_byte dd hx2 hN h1 h2 hb (J.lnew k)
theorem r_acopy (hX : OK X D cc own nL) (hroom : Room2 X l0 D d mc ms) {idx a n1 b n0 sp dp n : Nat} {f : Nat → Int32} (hlink : Cond.methodLink own idx arraycopyName ∈ TW) (hsrc : SRC G I b n0 f) (ha : a < G.1) (hs : G.2.1 a = (20, n1)) (h4 : sp + n ≤ n0) (h5 : dp + n ≤ n1) (hb1 : n0 < 2 ^ 31) (hb2 : n1 < 2 ^ 31) (hfit : ∀ i, i < n → fits .byte (.int (f (sp + i))) = true) (dd : decode cc pc = .ok (.invokestatic idx, 3)) (hcat : (st.map fun v => v.category).sum ≤ 8) (hd : 1 ≤ d)
    (k : J X D nL c w G (up1 I a (va_cpy f (I a) sp dp n)) L (pc + 3) ls st) : J X D nL c w G I L pc ls (.int (nI n) :: .int (nI dp) :: .ref a :: .int (nI sp) :: .ref b :: st) := by
  obtain ⟨p, l, e, R, s, m, args, below, meth, c0, Q⟩ := X
  intro H locs lsA hR hz hl hL
  obtain ⟨hx, hby, hml, hown, hts, hF, hlk, hsz, h0⟩ := id hX
  obtain ⟨-, R1, R2, R3, R4, R5⟩ := id hroom
  have hT := SRC.t hF h0 hR hz hsrc
  obtain ⟨hc1, -⟩ := arr_rd (t := 0) hF (hR.2.2.2 a ha) hs (by omega)
  have hc1 : H[D.1 + a]? = some (vp_cell (D.2.2.2.2.1 0) (n1, .inl (I a))) := hc1
  have hA : ArrOfT s (D.2.2.2.2.1 0) .byte := (hF.1.2 0 _ (tysL_at D (by omega))).1
  have hta := hR.ta ha
  have hc2 := map_cat (D := D) st
  have hnw : nativeFrameWords "java/lang/System" "arraycopy" 5 ≤ 40 := by decide
  show W _ _ _ _ _ _ _ _ _ _ _ _ _ _ _ (F0 m pc lsA (.int (nI n) :: .int (nI dp) :: .ref (ta D a) :: .int (nI sp) :: .ref (ta D b) :: st.map (tv D)))
  rw [hta]
  intro T hT2 X'
  obtain ⟨scr, hs1, hs2, hs3, hs4, -, hs5, -⟩ := hT
  obtain ⟨hs6, k0, hk0, cm0, hkk0⟩ := hs2
  obtain ⟨-, k1, hk1, cm1, hkk1⟩ := hA n1 (fun j => .int (I a j))
  have p1 : sp < 2 ^ 31 := by omega
  have p2 : dp < 2 ^ 31 := by omega
  have p3 : n < 2 ^ 31 := by omega
  obtain ⟨vm', X'', step⟩ := X'.arraycopy hx hown (hts _ hlink) (hts _ tw_acN) (hts _ tw_acS) (hts _ tw_acI) (src := ta D b) (dst := D.1 + a) (cs := scr) (cd := vp_cell (D.2.2.2.2.1 0) (n1, .inl (I a))) (srcPos := nI sp) (destPos := nI dp) (n := nI n) (by rw [hT2]; exact hs1) (by rw [hT2]; exact hc1)
    hs6 (fun _ h => by cases h) hs3 (fun h => by cases h) hk0 hk1 hkk0 hkk1 (by simp [refKind]) (nI_pos p1) (nI_pos p2) (nI_pos p3)
    (by rw [nI_toInt p1, nI_toInt p3]; omega)
    (by rw [nI_toInt p2, nI_toInt p3]; show ¬ _ > ((arrV (D.2.2.2.2.1 0) n1 (fun j => .int (I a j))).slots.size : Int); rw [arrV_size]; omega)
    (fun vm₁ _ i hi => by
      rw [nI_clamp p3] at hi
      have e : scr.slots.getD ((nI sp).toNatClampNeg + i) .null = .int (f (sp + i)) := by
        rw [nI_clamp p1, Array.getD_eq_getD_getElem?, hs5 _ (by omega)]
        rfl
      refine ⟨?_, ?_⟩
      · rw [e]
        exact hfit i hi
      · rw [e]
        exact trivial)
    (g := F0 m pc lsA (.int (nI n) :: .int (nI dp) :: .ref (D.1 + a) :: .int (nI sp) :: .ref (ta D b) :: st.map (tv D))) rfl (by show lsA.size = _; rw [hml]; exact hL.2.1) (rest := st.map (tv D)) rfl (by rw [hby]; exact dd) (by omega) (by rw [map_cat]; show 2 * 0 + _ + _ ≤ _; omega)
  have e1 : copied scr (vp_cell (D.2.2.2.2.1 0) (n1, .inl (I a))) (nI sp) (nI dp) (nI n) = vp_cell (D.2.2.2.2.1 0) (n1, .inl (va_cpy f (I a) (nI sp).toNatClampNeg (nI dp).toNatClampNeg (nI n).toNatClampNeg)) := va_copiedX (fun z => .int z) scr (D.2.2.2.2.1 0) f (I a) hs5 (by rw [nI_clamp p1, nI_clamp p3]; exact h4)
  rw [nI_clamp p1, nI_clamp p2, nI_clamp p3] at e1
  rw [e1] at X'' step
  have hlt : D.1 + a < H.size := (Array.getElem?_eq_some_iff.mp hc1).1
  have hheap : ((T.setVm vm').setCell (D.1 + a) (vp_cell (D.2.2.2.2.1 0) (n1, .inl (va_cpy f (I a) sp dp n)))).heap = H.setIfInBounds (D.1 + a) (vp_cell (D.2.2.2.2.1 0) (n1, .inl (va_cpy f (I a) sp dp n))) := by rw [← hT2]; rfl
  have oq : ∀ q : Nat, q ≠ D.1 + a → (H.setIfInBounds (D.1 + a) (vp_cell (D.2.2.2.2.1 0) (n1, .inl (va_cpy f (I a) sp dp n))))[q]? = H[q]? := fun q hq => by simp [Array.getElem?_setIfInBounds, Ne.symm hq]
  have hsame : (H.setIfInBounds (D.1 + a) (vp_cell (D.2.2.2.2.1 0) (n1, .inl (va_cpy f (I a) sp dp n))))[D.1 + a]? = some (vp_cell (D.2.2.2.2.1 0) (n1, .inl (va_cpy f (I a) sp dp n))) := by simp [Array.getElem?_setIfInBounds, hlt]
  have hCR : CR D G (up1 I a (va_cpy f (I a) sp dp n)) L (H.setIfInBounds (D.1 + a) (vp_cell (D.2.2.2.2.1 0) (n1, .inl (va_cpy f (I a) sp dp n)))) a := by
    refine CR.to_ar (t := 0) hs (by omega) ?_
    rw [hsame]
    show some (vp_cell (D.2.2.2.2.1 0) (n1, .inl (va_cpy f (I a) sp dp n))) = some (vp_cell (D.2.2.2.2.1 0) (n1, .inl (up1 I a (va_cpy f (I a) sp dp n) a)))
    rw [up1_s]
  obtain ⟨t, a1, b1⟩ := k _ _ lsA (hR.set rfl rfl (fun _ _ => rfl) (fun _ h => up1_n h) (fun _ _ => rfl) (fun _ _ => rfl) (by simp) oq hCR) (by simp; exact hz) (fun q hq => by
      rcases List.mem_append.mp hq with h | h
      · exact hl q h
      · obtain ⟨z, -, hz⟩ := List.mem_map.mp h
        rw [← hz]
        exact Nat.le_add_right _ _) hL _ hheap X''
  exact ⟨t, step t a1, b1⟩
theorem r_f2i (hX : OK X D cc own nL) (hroom : Room2 X l0 D d mc ms) (hw : own = "java/lang/Float") {b : UInt32} (dd : decode cc pc = .ok (.invokestatic 74, 3)) (hcat : (st.map fun v => v.category).sum ≤ 8) (hd : 1 ≤ d) (k : J X D nL c w G I L (pc + 3) ls (.int b.toInt32 :: st)) : J X D nL c w G I L pc ls (.float b :: st) := by
  subst hw
  obtain ⟨p, l, e, R, s, m, args, below, meth, c0, Q⟩ := X
  intro H locs lsA hR hz hl hL
  obtain ⟨hx, hby, hml, hown, hts, hF, hlk, hsz, h0⟩ := id hX
  obtain ⟨-, R1, R2, R3, R4, R5⟩ := id hroom
  have hc2 := map_cat (D := D) st
  exact vn_f2i hx hby (by rw [hml]; exact hL.2.1.symm) hown (hts _ tw_f2iL) (hts _ tw_f2iN) (hts _ tw_f2iS) (hts _ iw_Jxf58ca) (by omega) (by omega) dd (k H locs lsA hR hz hl hL)
theorem r_getX (hX : OK X D cc own nL) {idx ci j a z : Nat} {x : Int32} (gf : GF own idx ci j) (hr : isR ci j = false) (d : decode cc pc = .ok (.getfield idx, 3)) (ha : a < G.1) (hs : G.2.1 a = (ci, z)) (hv : I a j = x) (k : J X D nL c w G I L (pc + 3) ls (.int x :: st)) : J X D nL c w G I L pc ls (.ref a :: st) := r_getI hX gf hr d ha hs (by rw [hv]; exact k)
/-! calls that give a number and change nothing -/
def PqI (G : GT) (I : IT) (L : LT) (v : Int32) : Res → GT → IT → LT → Prop := Pq G L fun r I' => r = some (.int v) ∧ I' = I
def PqV (G : GT) (I2 : IT) (L : LT) : Res → GT → IT → LT → Prop := Pq G L fun r I' => r = none ∧ I' = I2
theorem r_Ui (hX : OK X D cc own nL) (hroom : Room2 X l0 D d mc ms) {M : MD} {idx n b : Nat} {C owner : String} {x : MethodName} {As : List Value} {v : Int32} (hM : Con l0 D M d' (.ref b :: As) 0 0 G I L (PqI G I L v)) (lk : LkU own idx C owner x M n) (hrc : RC G C b) (dd : decode cc pc = .ok (.invokevirtual idx, 3)) (hn : As.length = n) (hs : stk = As.reverse ++ .ref b :: st) (hcat : (st.map fun v => v.category).sum ≤ 8) (hd : d' + 1 ≤ d) (h1 : c ≤ mc) (h2 : w ≤ ms) (k : J X D nL c w G I L (pc + 3) ls (.int v :: st)) : J X D nL c w G I L pc ls stk :=
  r_Uq hX hroom hM lk hrc dd hn hs hcat hd h1 h2 (fun r I' h => by obtain ⟨rfl, rfl⟩ := h; exact k)
theorem r_Uv (hX : OK X D cc own nL) (hroom : Room2 X l0 D d mc ms) {M : MD} {idx n b : Nat} {C owner : String} {x : MethodName} {As : List Value} {I2 : IT} (hM : Con l0 D M d' (.ref b :: As) 0 0 G I L (PqV G I2 L)) (lk : LkU own idx C owner x M n) (hrc : RC G C b) (dd : decode cc pc = .ok (.invokevirtual idx, 3)) (hn : As.length = n) (hs : stk = As.reverse ++ .ref b :: st) (hcat : (st.map fun v => v.category).sum ≤ 8) (hd : d' + 1 ≤ d) (h1 : c ≤ mc) (h2 : w ≤ ms) (k : J X D nL c w G I2 L (pc + 3) ls st) : J X D nL c w G I L pc ls stk :=
  r_Uq hX hroom hM lk hrc dd hn hs hcat hd h1 h2 (fun r I' h => by obtain ⟨rfl, rfl⟩ := h; exact k)
theorem r_Vi (hX : OK X D cc own nL) (hroom : Room2 X l0 D d mc ms) {M : MD} {idx n b : Nat} {C : String} {As : List Value} {v : Int32} (hM : Con l0 D M d' (.ref b :: As) 0 0 G I L (PqI G I L v)) (lk : LkV own idx C M n) (hrc : RC G C b) (dd : decode cc pc = .ok (.invokevirtual idx, 3)) (hn : As.length = n) (hs : stk = As.reverse ++ .ref b :: st) (hcat : (st.map fun v => v.category).sum ≤ 8) (hd : d' + 1 ≤ d) (h1 : c ≤ mc) (h2 : w ≤ ms) (k : J X D nL c w G I L (pc + 3) ls (.int v :: st)) : J X D nL c w G I L pc ls stk :=
  r_Vq hX hroom hM lk hrc dd hn hs hcat hd h1 h2 (fun r I' h => by obtain ⟨rfl, rfl⟩ := h; exact k)
theorem r_Vv (hX : OK X D cc own nL) (hroom : Room2 X l0 D d mc ms) {M : MD} {idx n b : Nat} {C : String} {As : List Value} {I2 : IT} (hM : Con l0 D M d' (.ref b :: As) 0 0 G I L (PqV G I2 L)) (lk : LkV own idx C M n) (hrc : RC G C b) (dd : decode cc pc = .ok (.invokevirtual idx, 3)) (hn : As.length = n) (hs : stk = As.reverse ++ .ref b :: st) (hcat : (st.map fun v => v.category).sum ≤ 8) (hd : d' + 1 ≤ d) (h1 : c ≤ mc) (h2 : w ≤ ms) (k : J X D nL c w G I2 L (pc + 3) ls st) : J X D nL c w G I L pc ls stk :=
  r_Vq hX hroom hM lk hrc dd hn hs hcat hd h1 h2 (fun r I' h => by obtain ⟨rfl, rfl⟩ := h; exact k)
theorem r_Si (hX : OK X D cc own nL) (hroom : Room2 X l0 D d mc ms) {M : MD} {idx n : Nat} {As : List Value} {v : Int32} (hM : Con l0 D M d' As 0 0 G I L (PqI G I L v)) (lk : LkS own idx M n) (dd : decode cc pc = .ok (.invokestatic idx, 3)) (hn : As.length = n) (hs : stk = As.reverse ++ st) (hcat : (st.map fun v => v.category).sum ≤ 8) (hd : d' + 1 ≤ d) (h1 : c ≤ mc) (h2 : w ≤ ms) (k : J X D nL c w G I L (pc + 3) ls (.int v :: st)) : J X D nL c w G I L pc ls stk :=
  r_Sq hX hroom hM lk dd hn hs hcat hd h1 h2 (fun r I' h => by obtain ⟨rfl, rfl⟩ := h; exact k)
theorem r_Sv (hX : OK X D cc own nL) (hroom : Room2 X l0 D d mc ms) {M : MD} {idx n : Nat} {As : List Value} {I2 : IT} (hM : Con l0 D M d' As 0 0 G I L (PqV G I2 L)) (lk : LkS own idx M n) (dd : decode cc pc = .ok (.invokestatic idx, 3)) (hn : As.length = n) (hs : stk = As.reverse ++ st) (hcat : (st.map fun v => v.category).sum ≤ 8) (hd : d' + 1 ≤ d) (h1 : c ≤ mc) (h2 : w ≤ ms) (k : J X D nL c w G I2 L (pc + 3) ls st) : J X D nL c w G I L pc ls stk :=
  r_Sq hX hroom hM lk dd hn hs hcat hd h1 h2 (fun r I' h => by obtain ⟨rfl, rfl⟩ := h; exact k)
theorem r_iretI (hX : OK X D cc own nL) {ty : FieldType} {v : Int32} (hT : RT X l0 D (some ty) (PqI G I L v) d mc ms) (dd : decode cc pc = .ok (.ireturn, 1)) (hn : narrow ty (.int v) = .int v) (h1 : c ≤ mc) (h2 : w ≤ ms) : J X D nL c w G I L pc ls [.int v] := r_iretQ hX hT dd hn ⟨rfl, rfl⟩ h1 h2
theorem r_vretV (hX : OK X D cc own nL) (hT : RT X l0 D none (PqV G I L) d mc ms) (dd : decode cc pc = .ok (.return_, 1)) (h1 : c ≤ mc) (h2 : w ≤ ms) : J X D nL c w G I L pc ls [] := r_vretQ hX hT dd ⟨rfl, rfl⟩ h1 h2
end JRules
/-! ===== the line's own cells, by name ===== -/
def LB (G : GT) (I I' : IT) (v cap n : Nat) : Prop := LAY G ∧ (∀ k, k < 197 → k ≠ 60 → k ≠ 61 → I' k = I k) ∧ G.2.2 60 0 = some v ∧ v < G.1 ∧ (v = 61 ∨ 197 ≤ v) ∧ G.2.1 v = (20, cap) ∧ I' 60 1 = 0 ∧ I' 60 3 = nI n ∧ I 60 3 = nI n ∧ n ≤ cap ∧ cap ≤ 320 ∧ n ≤ 150 ∧ (∀ j, j < cap → -128 ≤ (I' v j).toInt ∧ (I' v j).toInt < 128) ∧ ∀ j, j < n → I' v j = I 61 j ∧ 0 ≤ (I 61 j).toInt ∧ (I 61 j).toInt < 128
theorem LAYB.lb {G : GT} {I I' : IT} (h : LAYB G I I') : ∃ v cap n, LB G I I' v cap n := by
  obtain ⟨h1, h2, v, cap, n, h3⟩ := h
  exact ⟨v, cap, n, h1, h2, h3⟩
theorem LB.layb {G : GT} {I I' : IT} {v cap n : Nat} (h : LB G I I' v cap n) : LAYB G I I' := ⟨h.1, h.2.1, v, cap, n, h.2.2⟩
section LBs
variable {G : GT} {I I' : IT} {v cap n : Nat}
theorem LB.lt (h : LB G I I' v cap n) : 60 < G.1 := Nat.lt_of_lt_of_le (by decide) h.1.1
theorem LB.sh (h : LB G I I' v cap n) : G.2.1 60 = (1, 0) := h.1.2.1 60 (by decide) (by decide)
theorem LB.rc (h : LB G I I' v cap n) : RC G "java/lang/StringBuilder" 60 := rc_B h.lt h.sh
theorem LB.val (h : LB G I I' v cap n) : G.2.2 60 0 = some v := h.2.2.1
theorem LB.vlt (h : LB G I I' v cap n) : v < G.1 := h.2.2.2.1
theorem LB.vsh (h : LB G I I' v cap n) : G.2.1 v = (20, cap) := h.2.2.2.2.2.1
theorem LB.cod (h : LB G I I' v cap n) : I' 60 1 = 0 := h.2.2.2.2.2.2.1
theorem LB.cnt (h : LB G I I' v cap n) : I' 60 3 = nI n := h.2.2.2.2.2.2.2.1
theorem LB.cnt0 (h : LB G I I' v cap n) : I 60 3 = nI n := h.2.2.2.2.2.2.2.2.1
theorem LB.le (h : LB G I I' v cap n) : n ≤ cap := h.2.2.2.2.2.2.2.2.2.1
theorem LB.c320 (h : LB G I I' v cap n) : cap ≤ 320 := h.2.2.2.2.2.2.2.2.2.2.1
theorem LB.n150 (h : LB G I I' v cap n) : n ≤ 150 := h.2.2.2.2.2.2.2.2.2.2.2.1
theorem LB.byt (h : LB G I I' v cap n) : ∀ j, j < cap → -128 ≤ (I' v j).toInt ∧ (I' v j).toInt < 128 := h.2.2.2.2.2.2.2.2.2.2.2.2.1
theorem LB.ltr (h : LB G I I' v cap n) : ∀ j, j < n → I' v j = I 61 j ∧ 0 ≤ (I 61 j).toInt ∧ (I 61 j).toInt < 128 := h.2.2.2.2.2.2.2.2.2.2.2.2.2
theorem LB.v60 (h : LB G I I' v cap n) : v ≠ 60 := by rcases h.2.2.2.2.1 with rfl | q <;> omega
/-- letters put at its end -/
theorem sbApp_e : ∀ (l : List Nat) (I : IT) (n : Nat), I 60 3 = nI n → n + l.length ≤ 150 → (∀ k, k ≠ 60 → k ≠ 61 → sbApp l I k = I k) ∧ sbApp l I 60 3 = nI (n + l.length) ∧ (∀ j, j < n → sbApp l I 61 j = I 61 j) ∧ ∀ j, j < l.length → sbApp l I 61 (n + j) = nI (l.getD j 0) := by
  intro l
  induction l with
  | nil => intro I n h _; exact ⟨fun _ _ _ => rfl, by simpa [sbApp] using h, fun _ _ => rfl, fun j hj => by cases hj⟩
  | cons a l ih =>
    intro I n h hb
    simp only [List.length_cons] at hb
    have hix : ix (I 60 3) = n := by rw [h, ix, nI_clamp (by omega)]
    have h1 : sbPut I (nI a) 60 3 = nI (n + 1) := by
      simp only [sbPut, up2]
      rw [h, nI_add]
      simp
    obtain ⟨g1, g2, g3, g4⟩ := ih (sbPut I (nI a)) (n + 1) h1 (by omega)
    have put : ∀ j, sbPut I (nI a) 61 j = if j = n then nI a else I 61 j := by
      intro j
      simp only [sbPut, up2, hix]
      simp
    refine ⟨fun k e1 e2 => ?_, ?_, fun j hj => ?_, fun j hj => ?_⟩
    · show sbApp l (sbPut I (nI a)) k = _
      rw [g1 k e1 e2]
      funext j
      simp [sbPut, up2, e1, e2]
    · show sbApp l (sbPut I (nI a)) 60 3 = _
      rw [g2]
      simp only [List.length_cons]
      rw [show n + 1 + l.length = n + (l.length + 1) by omega]
    · show sbApp l (sbPut I (nI a)) 61 j = _
      rw [g3 j (by omega), put, if_neg (by omega)]
    · show sbApp l (sbPut I (nI a)) 61 (n + j) = _
      cases j with
      | zero => rw [Nat.add_zero, g3 n (by omega), put, if_pos rfl]; rfl
      | succ j =>
        rw [show n + (j + 1) = n + 1 + j by omega, g4 j (by simpa using hj)]
        rfl
theorem LB.app (h : LB G I I' v cap n) (l : List Nat) {I2 : IT} (hl : n + l.length ≤ cap) (hl2 : n + l.length ≤ 150) (h128 : ∀ j, j < l.length → l.getD j 0 < 128) (e1 : ∀ k, k ≠ v → k ≠ 60 → I2 k = I' k) (e2 : I2 60 1 = 0) (e3 : I2 60 3 = nI (n + l.length)) (e4 : ∀ j, j < n → I2 v j = I' v j) (e5 : ∀ j, j < l.length → I2 v (n + j) = nI (l.getD j 0)) (e6 : ∀ j, n + l.length ≤ j → I2 v j = I' v j) : LB G (sbApp l I) I2 v cap (n + l.length) := by
  obtain ⟨g1, g2, g3, g4⟩ := sbApp_e l I n h.cnt0 hl2
  have hv : v = 61 ∨ 197 ≤ v := h.2.2.2.2.1
  refine ⟨h.1, fun k hk q1 q2 => ?_, h.val, h.vlt, hv, h.vsh, e2, e3, g2, hl, h.c320, hl2, fun j hj => ?_, fun j hj => ?_⟩
  · rw [e1 k (by omega) q1, h.2.1 k hk q1 q2, g1 k q1 q2]
  · by_cases q : j < n
    · rw [e4 j q]; exact h.byt j hj
    · by_cases q2 : j < n + l.length
      · have h5 := e5 (j - n) (by omega)
        rw [show n + (j - n) = j by omega] at h5
        have := h128 (j - n) (by omega)
        rw [h5, nI_toInt (by omega)]
        omega
      · rw [e6 j (by omega)]; exact h.byt j hj
  · by_cases q : j < n
    · rw [e4 j q, g3 j q]; exact h.ltr j q
    · have h5 := e5 (j - n) (by omega)
      have h6 := g4 (j - n) (by omega)
      rw [show n + (j - n) = j by omega] at h5 h6
      have := h128 (j - n) (by omega)
      rw [h5, h6, nI_toInt (by omega)]
      exact ⟨rfl, by omega, by omega⟩
end LBs
