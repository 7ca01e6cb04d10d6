/-! ===== the library's own code: what its walks need ===== -/
theorem tw_acJ7 : Cond.methodLink "java/util/Arrays" 150 arraycopyName ∈ TW := TW_of (i := 826) (by decide +kernel) (by decide +kernel)
theorem tw_acJ0 : Cond.methodLink "java/lang/String" 212 arraycopyName ∈ TW := TW_of (i := 901) (by decide +kernel) (by decide +kernel)
theorem tw_acS : Cond.static arraycopyName ∈ TW := TW_of (i := 827) (by decide +kernel) (by decide +kernel)
theorem tw_acN : Cond.native arraycopyName ∈ TW := TW_of (i := 828) (by decide +kernel) (by decide +kernel)
theorem tw_acI : Cond.initialized "java/lang/System" ∈ TW := TW_of (i := 53) (by decide +kernel) (by decide +kernel)
theorem tw_f2iL : Cond.methodLink "java/lang/Float" 74 ⟨"java/lang/Float", "floatToRawIntBits", "(F)I"⟩ ∈ TW := TW_of (i := 1445) (by decide +kernel) (by decide +kernel)
theorem tw_f2iS : Cond.static ⟨"java/lang/Float", "floatToRawIntBits", "(F)I"⟩ ∈ TW := TW_of (i := 1446) (by decide +kernel) (by decide +kernel)
theorem tw_f2iN : Cond.native ⟨"java/lang/Float", "floatToRawIntBits", "(F)I"⟩ ∈ TW := TW_of (i := 1447) (by decide +kernel) (by decide +kernel)
theorem sh0r (x : Int32) : x >>> ((0 : Int32) &&& 31) = x := by rw [show ((0 : Int32) &&& 31) = 0 by decide]; simp
theorem sh0l (x : Int32) : x <<< ((0 : Int32) &&& 31) = x := by rw [show ((0 : Int32) &&& 31) = 0 by decide]; simp
theorem fits_b {x : Int32} (h1 : -128 ≤ x.toInt) (h2 : x.toInt < 128) : fits .byte (.int x) = true := by
  have e1 : (-128 : Int32) ≤ x := by rw [Int32.le_iff_toInt_le]; exact h1
  have e2 : x ≤ (127 : Int32) := by rw [Int32.le_iff_toInt_le]; show x.toInt ≤ 127; omega
  simp only [fits, Bool.and_eq_true, decide_eq_true_eq]
  exact ⟨e1, e2⟩
/-- one cell's values anew -/
def up1 (I : IT) (a : Nat) (g : Nat → Int32) : IT := fun k => if k = a then g else I k
theorem up1_s {I : IT} {a : Nat} {g : Nat → Int32} : up1 I a g a = g := if_pos rfl
theorem up1_n {I : IT} {a k : Nat} {g : Nat → Int32} (h : k ≠ a) : up1 I a g k = I k := if_neg h
/-- bytes that lie somewhere: in an array of ours, or in a constant -/
def SRC (G : GT) (I : IT) (b n0 : Nat) (f : Nat → Int32) : Prop := (b < G.1 ∧ G.2.1 b = (20, n0) ∧ f = I b) ∨ ∃ code vs, b = 1000000 + code ∧ (FieldType.byte, code, n0, vs) ∈ cT ∧ ∀ j, j < n0 → vp_V vs j = .int (f j)
theorem SRC.t {D : DT} {G : GT} {I : IT} {L : LT} {H : Heap} {s : State} {b n0 : Nat} {f : Nat → Int32} (hF : Facts D s) (h0 : ∀ q, q < D.1 → s.heap[q]? = D.2.1[q]?) (hR : Rel D G I L H) (hz : s.heap.size ≤ H.size) (h : SRC G I b n0 f) : va_T .byte (ta D b) n0 (fun j => .int (f j)) (fun _ => False) s H := by
  rcases h with ⟨hb, hs, rfl⟩ | ⟨code, vs, rfl, hq, hv⟩
  · obtain ⟨h1, h2⟩ := arr_rd (t := 0) hF (hR.2.2.2 b hb) hs (by omega)
    have h1 : H[D.1 + b]? = some (arrV (D.2.2.2.2.1 0) n0 (fun q => .int (I b q))) := h1
    rw [hR.ta hb]
    exact ⟨_, h1, h2 n0 _, (fun q => by cases q), by rw [arrV_size]; exact Nat.le_refl _, by rw [arrV_size], fun j hj => arrV_read _ _ hj, fun q => q⟩
  · have hS := Facts.S (locs := []) h0 hR hz (fun q h => by cases h)
    obtain ⟨cell, g1, g2, g3, g4, g5, g6, g7⟩ := ((hF.2.2.2.2.1 _ hq).kept (old_kept h0)).kept hS.2.1
    exact ⟨cell, g1, g2, g3, g4, g5, fun j hj => by rw [g6 j hj]; show some (tv D (vp_V vs j)) = _; rw [hv j hj]; rfl, fun q => q⟩
/-- an array of bytes is none of longs or doubles -/
theorem J.lnew {X : XT} {D : DT} {nL c w n : Nat} {G : GT} {I : IT} {L : LT} {pc : Nat} {ls st : List Value} (k : J X D nL c w (gNew G 20 n) I L pc ls st) : J X D nL c w (gNew G 20 n) I (lNew G L) pc ls st := by
  obtain ⟨p, l, e, R, s, m, args, below, meth, c0, Q⟩ := X
  intro H locs lsA hR hz hl hL
  refine k H locs lsA ⟨hR.1, hR.2.1, hR.2.2.1, fun q hq => ?_⟩ hz hl hL
  have hc := hR.2.2.2 q hq
  by_cases e : q = G.1
  · subst e
    have hs : (gNew G 20 n).2.1 G.1 = (20 + 0, n) := if_pos rfl
    exact CR.to_ar (t := 0) hs (by omega) (hc.ar (t := 0) hs (by omega))
  · exact hc.kept rfl rfl rfl (if_neg e).symm (if_neg e).symm rfl
section JRules
variable {X : XT} {D : DT} {cc : ByteArray} {own : String} {nL c w : Nat} {G : GT} {I : IT} {L : LT} {pc : Nat} {ls st stk : List Value} {l0 : Launch} {d mc ms d' : Nat}
theorem r_newaB (hX : OK X D cc own nL) {N : Nat} {x : Int32} (hroom : Room2 X l0 D d mc ms) (dd : decode cc pc = .ok (.newarray .byte, 2)) (hx2 : x = nI N) (hN : N < 100000) (h1 : c + 1 ≤ mc) (h2 : w + N ≤ ms) (hb : G.1 + 1 < 1000000) (k : J X D nL (c + 1) (w + N) (gNew G 20 N) (iNew G I) L (pc + 2) ls (.ref G.1 :: st)) : J X D nL c w G I L pc ls (.int x :: st) :=
  r_newa hX (t := 0) hroom rfl (by omega) (by omega) w_arr_byte dd hx2 hN h1 h2 hb (J.lnew k)
theorem r_acopy (hX : OK X D cc own nL) (hroom : Room2 X l0 D d mc ms) {idx a n1 b n0 sp dp n : Nat} {f : Nat → Int32} (hlink : Cond.methodLink own idx arraycopyName ∈ TW) (hsrc : SRC G I b n0 f) (ha : a < G.1) (hs : G.2.1 a = (20, n1)) (h4 : sp + n ≤ n0) (h5 : dp + n ≤ n1) (hb1 : n0 < 2 ^ 31) (hb2 : n1 < 2 ^ 31) (hfit : ∀ i, i < n → fits .byte (.int (f (sp + i))) = true) (dd : decode cc pc = .ok (.invokestatic idx, 3)) (hcat : (st.map fun v => v.category).sum ≤ 8) (hd : 1 ≤ d)
    (k : J X D nL c w G (up1 I a (va_cpy f (I a) sp dp n)) L (pc + 3) ls st) : J X D nL c w G I L pc ls (.int (nI n) :: .int (nI dp) :: .ref a :: .int (nI sp) :: .ref b :: st) := by
  obtain ⟨p, l, e, R, s, m, args, below, meth, c0, Q⟩ := X
  intro H locs lsA hR hz hl hL
  obtain ⟨hx, hby, hml, hown, hts, hF, hlk, hsz, h0⟩ := id hX
  obtain ⟨-, R1, R2, R3, R4, R5⟩ := id hroom
  have hT := SRC.t hF h0 hR hz hsrc
  obtain ⟨hc1, -⟩ := arr_rd (t := 0) hF (hR.2.2.2 a ha) hs (by omega)
  have hc1 : H[D.1 + a]? = some (vp_cell (D.2.2.2.2.1 0) (n1, .inl (I a))) := hc1
  have hA : ArrOfT s (D.2.2.2.2.1 0) .byte := (hF.1.2 0 _ (tysL_at D (by omega))).1
  have hta := hR.ta ha
  have hc2 := map_cat (D := D) st
  have hnw : nativeFrameWords "java/lang/System" "arraycopy" 5 ≤ 40 := by decide
  show W _ _ _ _ _ _ _ _ _ _ _ _ _ _ _ (F0 m pc lsA (.int (nI n) :: .int (nI dp) :: .ref (ta D a) :: .int (nI sp) :: .ref (ta D b) :: st.map (tv D)))
  rw [hta]
  intro T hT2 X'
  obtain ⟨scr, hs1, hs2, hs3, hs4, -, hs5, -⟩ := hT
  obtain ⟨hs6, k0, hk0, cm0, hkk0⟩ := hs2
  obtain ⟨-, k1, hk1, cm1, hkk1⟩ := hA n1 (fun j => .int (I a j))
  have p1 : sp < 2 ^ 31 := by omega
  have p2 : dp < 2 ^ 31 := by omega
  have p3 : n < 2 ^ 31 := by omega
  obtain ⟨vm', X'', step⟩ := X'.arraycopy hx hown (hts _ hlink) (hts _ tw_acN) (hts _ tw_acS) (hts _ tw_acI) (src := ta D b) (dst := D.1 + a) (cs := scr) (cd := vp_cell (D.2.2.2.2.1 0) (n1, .inl (I a))) (srcPos := nI sp) (destPos := nI dp) (n := nI n) (by rw [hT2]; exact hs1) (by rw [hT2]; exact hc1)
    hs6 (fun _ h => by cases h) hs3 (fun h => by cases h) hk0 hk1 hkk0 hkk1 (by simp [refKind]) (nI_pos p1) (nI_pos p2) (nI_pos p3)
    (by rw [nI_toInt p1, nI_toInt p3]; omega)
    (by rw [nI_toInt p2, nI_toInt p3]; show ¬ _ > ((arrV (D.2.2.2.2.1 0) n1 (fun j => .int (I a j))).slots.size : Int); rw [arrV_size]; omega)
    (fun vm₁ _ i hi => by
      rw [nI_clamp p3] at hi
      have e : scr.slots.getD ((nI sp).toNatClampNeg + i) .null = .int (f (sp + i)) := by
        rw [nI_clamp p1, Array.getD_eq_getD_getElem?, hs5 _ (by omega)]
        rfl
      refine ⟨?_, ?_⟩
      · rw [e]
        exact hfit i hi
      · rw [e]
        exact trivial)
    (g := F0 m pc lsA (.int (nI n) :: .int (nI dp) :: .ref (D.1 + a) :: .int (nI sp) :: .ref (ta D b) :: st.map (tv D))) rfl (by show lsA.size = _; rw [hml]; exact hL.2.1) (rest := st.map (tv D)) rfl (by rw [hby]; exact dd) (by omega) (by rw [map_cat]; show 2 * 0 + _ + _ ≤ _; omega)
  have e1 : copied scr (vp_cell (D.2.2.2.2.1 0) (n1, .inl (I a))) (nI sp) (nI dp) (nI n) = vp_cell (D.2.2.2.2.1 0) (n1, .inl (va_cpy f (I a) (nI sp).toNatClampNeg (nI dp).toNatClampNeg (nI n).toNatClampNeg)) := va_copiedX (fun z => .int z) scr (D.2.2.2.2.1 0) f (I a) hs5 (by rw [nI_clamp p1, nI_clamp p3]; exact h4)
  rw [nI_clamp p1, nI_clamp p2, nI_clamp p3] at e1
  rw [e1] at X'' step
  have hlt : D.1 + a < H.size := (Array.getElem?_eq_some_iff.mp hc1).1
  have hheap : ((T.setVm vm').setCell (D.1 + a) (vp_cell (D.2.2.2.2.1 0) (n1, .inl (va_cpy f (I a) sp dp n)))).heap = H.setIfInBounds (D.1 + a) (vp_cell (D.2.2.2.2.1 0) (n1, .inl (va_cpy f (I a) sp dp n))) := by rw [← hT2]; rfl
  have oq : ∀ q : Nat, q ≠ D.1 + a → (H.setIfInBounds (D.1 + a) (vp_cell (D.2.2.2.2.1 0) (n1, .inl (va_cpy f (I a) sp dp n))))[q]? = H[q]? := fun q hq => by simp [Array.getElem?_setIfInBounds, Ne.symm hq]
  have hsame : (H.setIfInBounds (D.1 + a) (vp_cell (D.2.2.2.2.1 0) (n1, .inl (va_cpy f (I a) sp dp n))))[D.1 + a]? = some (vp_cell (D.2.2.2.2.1 0) (n1, .inl (va_cpy f (I a) sp dp n))) := by simp [Array.getElem?_setIfInBounds, hlt]
  have hCR : CR D G (up1 I a (va_cpy f (I a) sp dp n)) L (H.setIfInBounds (D.1 + a) (vp_cell (D.2.2.2.2.1 0) (n1, .inl (va_cpy f (I a) sp dp n)))) a := by
    refine CR.to_ar (t := 0) hs (by omega) ?_
    rw [hsame]
    show some (vp_cell (D.2.2.2.2.1 0) (n1, .inl (va_cpy f (I a) sp dp n))) = some (vp_cell (D.2.2.2.2.1 0) (n1, .inl (up1 I a (va_cpy f (I a) sp dp n) a)))
    rw [up1_s]
  obtain ⟨t, a1, b1⟩ := k _ _ lsA (hR.set rfl rfl (fun _ _ => rfl) (fun _ h => up1_n h) (fun _ _ => rfl) (fun _ _ => rfl) (by simp) oq hCR) (by simp; exact hz) (fun q hq => by
      rcases List.mem_append.mp hq with h | h
      · exact hl q h
      · obtain ⟨z, -, hz⟩ := List.mem_map.mp h
        rw [← hz]
        exact Nat.le_add_right _ _) hL _ hheap X''
  exact ⟨t, step t a1, b1⟩
theorem r_fbits (hX : OK X D cc own nL) (hroom : Room2 X l0 D d mc ms) (hw : own = "java/lang/Float") {b : UInt32} (dd : decode cc pc = .ok (.invokestatic 74, 3)) (hcat : (st.map fun v => v.category).sum ≤ 8) (hd : 1 ≤ d) (k : J X D nL c w G I L (pc + 3) ls (.int b.toInt32 :: st)) : J X D nL c w G I L pc ls (.float b :: st) := by
  subst hw
  obtain ⟨p, l, e, R, s, m, args, below, meth, c0, Q⟩ := X
  intro H locs lsA hR hz hl hL
  obtain ⟨hx, hby, hml, hown, hts, hF, hlk, hsz, h0⟩ := id hX
  obtain ⟨-, R1, R2, R3, R4, R5⟩ := id hroom
  have hc2 := map_cat (D := D) st
  exact vn_f2i hx hby (by rw [hml]; exact hL.2.1.symm) hown (hts _ tw_f2iL) (hts _ tw_f2iN) (hts _ tw_f2iS) (hts _ iw_Jxf58ca) (by omega) (by omega) dd (k H locs lsA hR hz hl hL)
theorem r_getX (hX : OK X D cc own nL) {idx ci j a z : Nat} {x : Int32} (gf : GF own idx ci j) (hr : isR ci j = false) (d : decode cc pc = .ok (.getfield idx, 3)) (ha : a < G.1) (hs : G.2.1 a = (ci, z)) (hv : I a j = x) (k : J X D nL c w G I L (pc + 3) ls (.int x :: st)) : J X D nL c w G I L pc ls (.ref a :: st) := r_getI hX gf hr d ha hs (by rw [hv]; exact k)
/-! calls that give a number and change nothing -/
def PqI (G : GT) (I : IT) (L : LT) (v : Int32) : Res → GT → IT → LT → Prop := Pq G L fun r I' => r = some (.int v) ∧ I' = I
def PqV (G : GT) (I2 : IT) (L : LT) : Res → GT → IT → LT → Prop := Pq G L fun r I' => r = none ∧ I' = I2
theorem r_Ui (hX : OK X D cc own nL) (hroom : Room2 X l0 D d mc ms) {M : MD} {idx n b : Nat} {C owner : String} {x : MethodName} {As : List Value} {v : Int32} (hM : Con l0 D M d' (.ref b :: As) 0 0 G I L (PqI G I L v)) (lk : LkU own idx C owner x M n) (hrc : RC G C b) (dd : decode cc pc = .ok (.invokevirtual idx, 3)) (hn : As.length = n) (hs : stk = As.reverse ++ .ref b :: st) (hcat : (st.map fun v => v.category).sum ≤ 8) (hd : d' + 1 ≤ d) (h1 : c ≤ mc) (h2 : w ≤ ms) (k : J X D nL c w G I L (pc + 3) ls (.int v :: st)) : J X D nL c w G I L pc ls stk :=
  r_Uq hX hroom hM lk hrc dd hn hs hcat hd h1 h2 (fun r I' h => by obtain ⟨rfl, rfl⟩ := h; exact k)
theorem r_Uv (hX : OK X D cc own nL) (hroom : Room2 X l0 D d mc ms) {M : MD} {idx n b : Nat} {C owner : String} {x : MethodName} {As : List Value} {I2 : IT} (hM : Con l0 D M d' (.ref b :: As) 0 0 G I L (PqV G I2 L)) (lk : LkU own idx C owner x M n) (hrc : RC G C b) (dd : decode cc pc = .ok (.invokevirtual idx, 3)) (hn : As.length = n) (hs : stk = As.reverse ++ .ref b :: st) (hcat : (st.map fun v => v.category).sum ≤ 8) (hd : d' + 1 ≤ d) (h1 : c ≤ mc) (h2 : w ≤ ms) (k : J X D nL c w G I2 L (pc + 3) ls st) : J X D nL c w G I L pc ls stk :=
  r_Uq hX hroom hM lk hrc dd hn hs hcat hd h1 h2 (fun r I' h => by obtain ⟨rfl, rfl⟩ := h; exact k)
theorem r_Vi (hX : OK X D cc own nL) (hroom : Room2 X l0 D d mc ms) {M : MD} {idx n b : Nat} {C : String} {As : List Value} {v : Int32} (hM : Con l0 D M d' (.ref b :: As) 0 0 G I L (PqI G I L v)) (lk : LkV own idx C M n) (hrc : RC G C b) (dd : decode cc pc = .ok (.invokevirtual idx, 3)) (hn : As.length = n) (hs : stk = As.reverse ++ .ref b :: st) (hcat : (st.map fun v => v.category).sum ≤ 8) (hd : d' + 1 ≤ d) (h1 : c ≤ mc) (h2 : w ≤ ms) (k : J X D nL c w G I L (pc + 3) ls (.int v :: st)) : J X D nL c w G I L pc ls stk :=
  r_Vq hX hroom hM lk hrc dd hn hs hcat hd h1 h2 (fun r I' h => by obtain ⟨rfl, rfl⟩ := h; exact k)
theorem r_Vv (hX : OK X D cc own nL) (hroom : Room2 X l0 D d mc ms) {M : MD} {idx n b : Nat} {C : String} {As : List Value} {I2 : IT} (hM : Con l0 D M d' (.ref b :: As) 0 0 G I L (PqV G I2 L)) (lk : LkV own idx C M n) (hrc : RC G C b) (dd : decode cc pc = .ok (.invokevirtual idx, 3)) (hn : As.length = n) (hs : stk = As.reverse ++ .ref b :: st) (hcat : (st.map fun v => v.category).sum ≤ 8) (hd : d' + 1 ≤ d) (h1 : c ≤ mc) (h2 : w ≤ ms) (k : J X D nL c w G I2 L (pc + 3) ls st) : J X D nL c w G I L pc ls stk :=
  r_Vq hX hroom hM lk hrc dd hn hs hcat hd h1 h2 (fun r I' h => by obtain ⟨rfl, rfl⟩ := h; exact k)
theorem r_Si (hX : OK X D cc own nL) (hroom : Room2 X l0 D d mc ms) {M : MD} {idx n : Nat} {As : List Value} {v : Int32} (hM : Con l0 D M d' As 0 0 G I L (PqI G I L v)) (lk : LkS own idx M n) (dd : decode cc pc = .ok (.invokestatic idx, 3)) (hn : As.length = n) (hs : stk = As.reverse ++ st) (hcat : (st.map fun v => v.category).sum ≤ 8) (hd : d' + 1 ≤ d) (h1 : c ≤ mc) (h2 : w ≤ ms) (k : J X D nL c w G I L (pc + 3) ls (.int v :: st)) : J X D nL c w G I L pc ls stk :=
  r_Sq hX hroom hM lk dd hn hs hcat hd h1 h2 (fun r I' h => by obtain ⟨rfl, rfl⟩ := h; exact k)
theorem r_Sv (hX : OK X D cc own nL) (hroom : Room2 X l0 D d mc ms) {M : MD} {idx n : Nat} {As : List Value} {I2 : IT} (hM : Con l0 D M d' As 0 0 G I L (PqV G I2 L)) (lk : LkS own idx M n) (dd : decode cc pc = .ok (.invokestatic idx, 3)) (hn : As.length = n) (hs : stk = As.reverse ++ st) (hcat : (st.map fun v => v.category).sum ≤ 8) (hd : d' + 1 ≤ d) (h1 : c ≤ mc) (h2 : w ≤ ms) (k : J X D nL c w G I2 L (pc + 3) ls st) : J X D nL c w G I L pc ls stk :=
  r_Sq hX hroom hM lk dd hn hs hcat hd h1 h2 (fun r I' h => by obtain ⟨rfl, rfl⟩ := h; exact k)
theorem r_iretI (hX : OK X D cc own nL) {ty : FieldType} {v : Int32} (hT : RT X l0 D (some ty) (PqI G I L v) d mc ms) (dd : decode cc pc = .ok (.ireturn, 1)) (hn : narrow ty (.int v) = .int v) (h1 : c ≤ mc) (h2 : w ≤ ms) : J X D nL c w G I L pc ls [.int v] := r_iretQ hX hT dd hn ⟨rfl, rfl⟩ h1 h2
theorem r_vretV (hX : OK X D cc own nL) (hT : RT X l0 D none (PqV G I L) d mc ms) (dd : decode cc pc = .ok (.return_, 1)) (h1 : c ≤ mc) (h2 : w ≤ ms) : J X D nL c w G I L pc ls [] := r_vretQ hX hT dd ⟨rfl, rfl⟩ h1 h2
end JRules
theorem tw_f2iM : Cond.methodLink "java/lang/Math" 68 ⟨"java/lang/Float", "floatToRawIntBits", "(F)I"⟩ ∈ TW := TW_of (i := 1452) (by decide +kernel) (by decide +kernel)
theorem tw_cl1 : Cond.methodLink "java/util/Arrays" 310 ⟨"[B", "clone", "()Ljava/lang/Object;"⟩ ∈ TW := TW_of (i := 818) (by decide +kernel) (by decide +kernel)
theorem tw_cl2 : Cond.sameMethod "[B" "java/lang/Object" "clone" "()Ljava/lang/Object;" ∈ TW := TW_of (i := 819) (by decide +kernel) (by decide +kernel)
theorem tw_cl3 : Cond.native ⟨"java/lang/Object", "clone", "()Ljava/lang/Object;"⟩ ∈ TW := TW_of (i := 820) (by decide +kernel) (by decide +kernel)
theorem tw_cl4 : Cond.instanceMethod ⟨"java/lang/Object", "clone", "()Ljava/lang/Object;"⟩ ∈ TW := TW_of (i := 821) (by decide +kernel) (by decide +kernel)
theorem tw_cl5 : Cond.selects "[B" ⟨"[B", "clone", "()Ljava/lang/Object;"⟩ ⟨"java/lang/Object", "clone", "()Ljava/lang/Object;"⟩ ∈ TW := TW_of (i := 822) (by decide +kernel) (by decide +kernel)
theorem tw_cl6 : Cond.castable "[B" "java/lang/Cloneable" ∈ TW := TW_of (i := 823) (by decide +kernel) (by decide +kernel)
theorem tw_cl7 : Cond.classLink "java/util/Arrays" 311 "[B" ∈ TW := TW_of (i := 824) (by decide +kernel) (by decide +kernel)
section JRules1
variable {X : XT} {D : DT} {cc : ByteArray} {own : String} {nL c w : Nat} {G : GT} {I : IT} {L : LT} {pc : Nat} {ls st stk : List Value} {l0 : Launch} {d mc ms d' : Nat}
theorem r_f2iM (hX : OK X D cc own nL) (hroom : Room2 X l0 D d mc ms) (hw : own = "java/lang/Math") {b : UInt32} (dd : decode cc pc = .ok (.invokestatic 68, 3)) (hcat : (st.map fun v => v.category).sum ≤ 8) (hd : 1 ≤ d) (k : J X D nL c w G I L (pc + 3) ls (.int b.toInt32 :: st)) : J X D nL c w G I L pc ls (.float b :: st) := by
  subst hw
  obtain ⟨p, l, e, R, s, m, args, below, meth, c0, Q⟩ := X
  intro H locs lsA hR hz hl hL
  obtain ⟨hx, hby, hml, hown, hts, hF, hlk, hsz, h0⟩ := id hX
  obtain ⟨-, R1, R2, R3, R4, R5⟩ := id hroom
  have hc2 := map_cat (D := D) st
  exact vn_f2i hx hby (by rw [hml]; exact hL.2.1.symm) hown (hts _ tw_f2iM) (hts _ tw_f2iN) (hts _ tw_f2iS) (hts _ iw_Jxf58ca) (by omega) (by omega) dd (k H locs lsA hR hz hl hL)
/-- a copy of an array of bytes, from its clone -/
theorem r_cloneB (hX : OK X D cc "java/util/Arrays" nL) (hroom : Room2 X l0 D d mc ms) {a N : Nat} (ha : a < G.1) (hs : G.2.1 a = (20, N)) (hby : ∀ j, j < N → -128 ≤ (I a j).toInt ∧ (I a j).toInt < 128) (dd : decode cc pc = .ok (.invokevirtual 310, 3)) (hcat : (st.map fun v => v.category).sum ≤ 8) (hd : 1 ≤ d) (h1 : c + 1 ≤ mc) (h2 : w + N ≤ ms) (hb : G.1 + 1 < 1000000)
    (k : J X D nL (c + 1) (w + N) (gNew G 20 N) (up1 (iNew G I) G.1 (I a)) L (pc + 3) ls (.ref G.1 :: st)) : J X D nL c w G I L pc ls (.ref a :: st) := by
  obtain ⟨p, l, e, R, s, m, args, below, meth, c0, Q⟩ := X
  intro H locs lsA hR hz hl hL
  obtain ⟨hx, hbc, hml, hown, hts, hF, hlk, hsz, h0⟩ := id hX
  obtain ⟨-, R1, R2, R3, R4, R5⟩ := id hroom
  obtain ⟨hc1, -⟩ := arr_rd (t := 0) hF (hR.2.2.2 a ha) hs (by omega)
  have hc1 : H[D.1 + a]? = some (vp_cell (D.2.2.2.2.1 0) (N, .inl (I a))) := hc1
  have hta := hR.ta ha
  have hc2 := map_cat (D := D) st
  show W _ _ _ _ _ _ _ _ _ _ _ _ _ _ _ (F0 m pc lsA (.ref (ta D a) :: st.map (tv D)))
  rw [hta]
  have hnm : s.vm.findClass "[B" = some (D.2.2.2.2.1 0) := va_nm_byte (hF.1.2 0 _ (tysL_at D (by omega))).2
  intro T hT2 X'
  have hcellT : T.heap[D.1 + a]? = some (vp_cell (D.2.2.2.2.1 0) (N, .inl (I a))) := by rw [hT2]; exact hc1
  obtain ⟨c1, t1, f1, f2, f3⟩ := Cond.castable_spec (hts _ tw_cl6)
  cases hnm.symm.trans f1
  have hA : ArrOfT s (D.2.2.2.2.1 0) .byte := (hF.1.2 0 _ (tysL_at D (by omega))).1
  obtain ⟨-, kA, hkA, comp, hkind⟩ := State.isArrayOf_alike X'.warmed.alike (hA 0 (fun _ => .null))
  obtain ⟨-, kS, hkS, compS, hkindS⟩ := hA 0 (fun _ => .null)
  have hsz1 : (vp_cell (D.2.2.2.2.1 0) (N, .inl (I a))).slots.size = N := arrV_size _ _ _
  obtain ⟨vm', X'', step⟩ := X'.cloneArray hx hown (hts _ tw_cl1) (hts _ tw_cl2) (hts _ tw_cl3) (hts _ tw_cl4) (hts _ tw_cl5) (a := D.1 + a) (cell := vp_cell (D.2.2.2.2.1 0) (N, .inl (I a))) hcellT (fun k h => by cases h) (fun h => by cases h) hnm f2 f3
    (fun i v hv => by
      have hk' : T.vm.classes[D.2.2.2.2.1 0]? = some kA := hkA
      have hv2 : fits .byte v = true := by
        have hv : (arrV (D.2.2.2.2.1 0) N (fun j => .int (I a j))).slots[i]? = some v := hv
        by_cases hi : i < N
        · rw [arrV_read _ _ hi] at hv
          cases hv
          exact fits_b (hby i hi).1 (hby i hi).2
        · rw [Array.getElem?_eq_none (by rw [arrV_size]; omega)] at hv
          cases hv
      simpa [State.fitsSlot, State.slotType?, hk', hkind, vp_cell, arrV] using hv2)
    (g := F0 m pc lsA (.ref (D.1 + a) :: st.map (tv D))) rfl (by show lsA.size = _; rw [hml]; exact hL.2.1) rfl (by rw [hbc]; exact dd) (by omega) (by show 2 * 0 + _ + 14 ≤ _; omega) (by omega) (by rw [hsz1]; omega) (hloader := Vm.clonesLoader_of_array hkS hkindS)
  rw [hsz1] at X''
  have z1 : (H.push (vp_cell (D.2.2.2.2.1 0) (N, .inl (I a)))).size = D.1 + G.1 + 1 := by rw [Array.size_push, hR.1]
  have e1 : (H.push (vp_cell (D.2.2.2.2.1 0) (N, .inl (I a))))[D.1 + G.1]? = some (vp_cell (D.2.2.2.2.1 0) (N, .inl (I a))) := by rw [← hR.1, Array.getElem?_push_size]
  have o1 : ∀ q : Nat, q < D.1 + G.1 → (H.push (vp_cell (D.2.2.2.2.1 0) (N, .inl (I a))))[q]? = H[q]? := fun q hq => by rw [Array.getElem?_push, if_neg (by rw [hR.1]; exact Nat.ne_of_lt hq)]
  have ne : ∀ k, k < G.1 → k ≠ G.1 := fun k hk => Nat.ne_of_lt hk
  have hR2 : Rel D (gNew G 20 N) (up1 (iNew G I) G.1 (I a)) L (H.push (vp_cell (D.2.2.2.2.1 0) (N, .inl (I a)))) := by
    refine hR.push rfl hb (fun k hk => if_neg (ne k hk)) (fun k hk => if_neg (ne k hk)) (fun k hk => ?_) (fun _ _ => rfl) (fun _ _ => rfl) z1 o1 (CR.to_ar (t := 0) (if_pos rfl) (by omega) ?_)
    · rw [up1_n (ne k hk)]; exact if_neg (ne k hk)
    · rw [e1]
      show some (vp_cell (D.2.2.2.2.1 0) (N, .inl (I a))) = some (vp_cell (D.2.2.2.2.1 0) (N, .inl (up1 (iNew G I) G.1 (I a) G.1)))
      rw [up1_s]
  have hk := k (H.push (vp_cell (D.2.2.2.2.1 0) (N, .inl (I a)))) locs lsA hR2 (by rw [Array.size_push]; omega) hl hL
  simp only [List.map_cons] at hk
  have ht : tv D (.ref G.1) = .ref (D.1 + G.1) := by show Value.ref (ta D G.1) = _; rw [ta_lt D hR.2.1]
  rw [ht, ← hR.1] at hk
  obtain ⟨t, b1, b2⟩ := hk ((T.setVm vm').pushCell (vp_cell (D.2.2.2.2.1 0) (N, .inl (I a)))) (by rw [← hT2]; rfl) X''
  refine ⟨t, step t ?_, b2⟩
  rw [hT2]
  exact b1
/-- an array of bytes is one -/
theorem r_castB (hX : OK X D cc "java/util/Arrays" nL) {a N : Nat} (ha : a < G.1) (hs : G.2.1 a = (20, N)) (dd : decode cc pc = .ok (.checkcast 311, 3)) (k : J X D nL c w G I L (pc + 3) ls (.ref a :: st)) : J X D nL c w G I L pc ls (.ref a :: st) := by
  obtain ⟨p, l, e, R, s, m, args, below, meth, c0, Q⟩ := X
  intro H locs lsA hR hz hl hL
  obtain ⟨hx, hbc, hml, hown, hts, hF, hlk, hsz, h0⟩ := id hX
  obtain ⟨hc1, -⟩ := arr_rd (t := 0) hF (hR.2.2.2 a ha) hs (by omega)
  have hc1 : H[D.1 + a]? = some (vp_cell (D.2.2.2.2.1 0) (N, .inl (I a))) := hc1
  have hta := hR.ta ha
  have hnm : s.vm.findClass "[B" = some (D.2.2.2.2.1 0) := va_nm_byte (hF.1.2 0 _ (tysL_at D (by omega))).2
  have hk := k H locs lsA hR hz hl hL
  simp only [List.map_cons] at hk ⊢
  have e1 : tv D (.ref a) = .ref (D.1 + a) := by show Value.ref (ta D a) = _; rw [hta]
  rw [e1] at hk ⊢
  refine va_castA (cl := vwCl) (D := (D.2.2.1, D.2.2.2.1)) (ws := [(D.1 + a, .inl (D.2.2.2.2.1 0, (N, .inl (I a))))]) hx hbc hown (hts _ tw_cl7) (fun k x hk => ?_) 0 (cA := D.2.2.2.2.1 0) (x := (N, .inl (I a))) rfl hnm dd hk
  cases k with
  | zero => cases hk; exact hc1
  | succ k => cases hk
/-- a final number, in the constructor of its own class -/
theorem r_putFI (hX : OK X D cc own nL) (hI : InInit X) {idx ci j a z : Nat} {ty : FieldType} (gf : FF own idx ci j ty) (hrr : isR ci j = false) (d : decode cc pc = .ok (.putfield idx, 3)) (ha : a < G.1) (hs : G.2.1 a = (ci, z)) {x : Int32} (hn : narrow ty (.int x) = .int x) (hf : fits ty (.int x) = true) (k : J X D nL c w G (up2 I a j x) L (pc + 3) ls st) : J X D nL c w G I L pc ls (.int x :: .ref a :: st) := by
  obtain ⟨p, l, e, R, s, m, args, below, meth, c0, Q⟩ := X
  intro H locs lsA hR hz hl hL
  obtain ⟨r, hr, hc, hj, hlink, hfin, hty, hdecl⟩ := gf
  obtain ⟨r', hr', hob⟩ := (hR.2.2.2 a ha).ob hs hc
  cases hr.symm.trans hr'
  obtain ⟨hx, hb, -, hown, hts, hF, -⟩ := hX
  obtain ⟨cell, q1, q2, q3, q4⟩ := hob
  obtain ⟨ty0, hty0⟩ := vw_ty ci r hr
  have hin := vw_in ci r hr
  have hap := va_apart (own := own) hts hin ty0 hty0 (vw_nm ci r hr) hF.1 hr
  obtain ⟨hS, hfc, kC, hkC, hkind⟩ := hF.1.1 ci _ hr
  obtain ⟨cf, kf, fi, f, hi, hsl⟩ := hS j hj
  have hlay := hts _ (hin _ (u_in_lay hj))
  unfold u_lay at hlay
  rw [if_pos hfin] at hlay
  have hst := (u_facts hfc hkC (u_lays hts hin hj) hi).1
  have hcf : m.cls = cf := by
    obtain ⟨_, _, c', _, _, _, -, -, hf', -, -, -, hown2, -⟩ := Cond.laysFinal_spec hlay
    have e1 : c' = cf := by have := hi.symm.trans hf'; simp at this; exact this.1.symm
    rw [hdecl] at hown2
    rw [← e1]; exact Option.some.inj (hown.symm.trans hown2)
  have h6 := u_fits hfc hkC hkind (Or.inr hlay) hi hty (v := .int x) hn hf
  have ht := hR.ta ha
  show W _ _ _ _ _ _ _ _ _ _ _ _ _ _ _ (F0 m pc lsA (.int x :: .ref (ta D a) :: st.map (tv D)))
  rw [ht]
  refine W.putFinK hx hb hown (hts _ hlink) hi hst hcf hI (by rw [q2]; exact h6) q1 q3 (by rw [hsl]; exact k2_hasslot (q4 j hj)) rfl rfl d fun H' e1 e2 e3 => ?_
  rw [hsl] at e1 ⊢
  refine k H' _ lsA (put_ob (G' := G) hR ha hs hc hr hj hap q2 q3 q4 e1 e2 e3 rfl rfl (fun _ _ => rfl) (fun k h => up2_ne h) (fun k _ => fval_putI hrr k)) (by rw [e2]; exact hz) (fun q hq => ?_) hL
  rcases List.mem_append.mp hq with h | h
  · exact hl q h
  · rw [List.mem_singleton.mp h]; exact Nat.le_add_right _ _
end JRules1
/-- letters put at its end -/
theorem sbApp_e : ∀ (l : List Nat) (I : IT) (n : Nat), I 60 3 = nI n → n + l.length ≤ 150 → (∀ k, k ≠ 60 → k ≠ 61 → sbApp l I k = I k) ∧ sbApp l I 60 3 = nI (n + l.length) ∧ (∀ j, j < n → sbApp l I 61 j = I 61 j) ∧ ∀ j, j < l.length → sbApp l I 61 (n + j) = nI (l.getD j 0) := by
  intro l
  induction l with
  | nil => intro I n h _; exact ⟨fun _ _ _ => rfl, by simpa [sbApp] using h, fun _ _ => rfl, fun j hj => by cases hj⟩
  | cons a l ih =>
    intro I n h hb
    simp only [List.length_cons] at hb
    have hix : ix (I 60 3) = n := by rw [h, ix, nI_clamp (by omega)]
    have h1 : sbPut I (nI a) 60 3 = nI (n + 1) := by
      simp only [sbPut, up2]
      rw [h, nI_add]
      simp
    obtain ⟨g1, g2, g3, g4⟩ := ih (sbPut I (nI a)) (n + 1) h1 (by omega)
    have put : ∀ j, sbPut I (nI a) 61 j = if j = n then nI a else I 61 j := by
      intro j
      simp only [sbPut, up2, hix]
      simp
    refine ⟨fun k e1 e2 => ?_, ?_, fun j hj => ?_, fun j hj => ?_⟩
    · show sbApp l (sbPut I (nI a)) k = _
      rw [g1 k e1 e2]
      funext j
      simp [sbPut, up2, e1, e2]
    · show sbApp l (sbPut I (nI a)) 60 3 = _
      rw [g2]
      simp only [List.length_cons]
      rw [show n + 1 + l.length = n + (l.length + 1) by omega]
    · show sbApp l (sbPut I (nI a)) 61 j = _
      rw [g3 j (by omega), put, if_neg (by omega)]
    · show sbApp l (sbPut I (nI a)) 61 (n + j) = _
      cases j with
      | zero => rw [Nat.add_zero, g3 n (by omega), put, if_pos rfl]; rfl
      | succ j =>
        rw [show n + (j + 1) = n + 1 + j by omega, g4 j (by simpa using hj)]
        rfl
/-- where a StringBuilder's change began: memory, its array; its letters now -/
abbrev ZT : Type := (GT × IT × Nat) × List Nat
/-- the StringBuilder at b, its array v of cap bytes, its n letters; what else stood at the start stands -/
def LB (b : Nat) (G : GT) (Z : ZT) (I : IT) (v cap n : Nat) : Prop := (b < Z.1.1.1 ∧ Z.1.1.1 ≤ G.1 ∧ (∀ k, k < Z.1.1.1 → G.2.1 k = Z.1.1.2.1 k) ∧ (∀ k, k < Z.1.1.1 → k ≠ b → G.2.2 k = Z.1.1.2.2 k) ∧ (∀ k, k < Z.1.1.1 → k ≠ b → k ≠ Z.1.2.2 → I k = Z.1.2.1 k) ∧ (v = Z.1.2.2 ∨ Z.1.1.1 ≤ v)) ∧ (190 ≤ Z.1.1.1 ∧ (v = 61 ∨ 190 ≤ v) ∧ G.2.1 b = (1, 0)) ∧ G.2.2 b 0 = some v ∧ v < G.1 ∧ G.2.1 v = (20, cap) ∧ I b 1 = 0 ∧ I b 3 = nI n ∧ n = Z.2.length ∧ n ≤ cap ∧ cap ≤ 320 ∧ n ≤ 150 ∧ (∀ j, j < cap → -128 ≤ (I v j).toInt ∧ (I v j).toInt < 128) ∧ ∀ j, j < n → I v j = nI (Z.2.getD j 0) ∧ Z.2.getD j 0 < 128
section LBs2
variable {b : Nat} {G : GT} {Z : ZT} {I : IT} {v cap n : Nat}
theorem LB.lt (h : LB b G Z I v cap n) : b < G.1 := Nat.lt_of_lt_of_le h.1.1 h.1.2.1
theorem LB.sh (h : LB b G Z I v cap n) : G.2.1 b = (1, 0) := h.2.1.2.2
theorem LB.rc (h : LB b G Z I v cap n) : RC G "java/lang/StringBuilder" b := rc_B h.lt h.sh
theorem LB.val (h : LB b G Z I v cap n) : G.2.2 b 0 = some v := h.2.2.1
theorem LB.vlt (h : LB b G Z I v cap n) : v < G.1 := h.2.2.2.1
theorem LB.vsh (h : LB b G Z I v cap n) : G.2.1 v = (20, cap) := h.2.2.2.2.1
theorem LB.cod (h : LB b G Z I v cap n) : I b 1 = 0 := h.2.2.2.2.2.1
theorem LB.cnt (h : LB b G Z I v cap n) : I b 3 = nI n := h.2.2.2.2.2.2.1
theorem LB.len (h : LB b G Z I v cap n) : n = Z.2.length := h.2.2.2.2.2.2.2.1
theorem LB.le (h : LB b G Z I v cap n) : n ≤ cap := h.2.2.2.2.2.2.2.2.1
theorem LB.c320 (h : LB b G Z I v cap n) : cap ≤ 320 := h.2.2.2.2.2.2.2.2.2.1
theorem LB.n150 (h : LB b G Z I v cap n) : n ≤ 150 := h.2.2.2.2.2.2.2.2.2.2.1
theorem LB.byt (h : LB b G Z I v cap n) : ∀ j, j < cap → -128 ≤ (I v j).toInt ∧ (I v j).toInt < 128 := h.2.2.2.2.2.2.2.2.2.2.2.1
theorem LB.ltr0 (h : LB b G Z I v cap n) : ∀ j, j < n → I v j = nI (Z.2.getD j 0) ∧ Z.2.getD j 0 < 128 := h.2.2.2.2.2.2.2.2.2.2.2.2
theorem LB.ltr (h : LB b G Z I v cap n) : ∀ j, j < n → I v j = nI (Z.2.getD j 0) ∧ 0 ≤ (nI (Z.2.getD j 0)).toInt ∧ (nI (Z.2.getD j 0)).toInt < 128 := fun j hj => by
  have q := h.ltr0 j hj
  refine ⟨q.1, ?_⟩
  rw [nI_toInt (by omega)]
  omega
theorem LB.v60 (h : LB b G Z I v cap n) : v ≠ b := by
  intro e
  have h1 := h.vsh
  rw [e, h.sh] at h1
  cases h1
theorem LB.app (h : LB b G Z I v cap n) (l : List Nat) {I2 : IT} (hl : n + l.length ≤ cap) (hl2 : n + l.length ≤ 150) (h128 : ∀ j, j < l.length → l.getD j 0 < 128) (e1 : ∀ k, k ≠ v → k ≠ b → I2 k = I k) (e2 : I2 b 1 = 0) (e3 : I2 b 3 = nI (n + l.length)) (e4 : ∀ j, j < n → I2 v j = I v j) (e5 : ∀ j, j < l.length → I2 v (n + j) = nI (l.getD j 0)) (e6 : ∀ j, n + l.length ≤ j → I2 v j = I v j) : LB b G (Z.1, Z.2 ++ l) I2 v cap (n + l.length) := by
  have hn := h.len
  obtain ⟨a1, a2, a3, a4, a5, a6⟩ := h.1
  refine ⟨⟨a1, a2, a3, a4, fun k hk q1 q2 => ?_, a6⟩, h.2.1, h.val, h.vlt, h.vsh, e2, e3, by show n + l.length = (Z.2 ++ l).length; rw [List.length_append, hn], hl, h.c320, hl2, fun j hj => ?_, fun j hj => ?_⟩
  · refine (e1 k ?_ q1).trans (a5 k hk q1 q2)
    rcases a6 with e | e
    · rw [e]; exact q2
    · exact Nat.ne_of_lt (Nat.lt_of_lt_of_le hk e)
  · by_cases q : j < n
    · rw [e4 j q]; exact h.byt j hj
    · by_cases q2 : j < n + l.length
      · have h5 := e5 (j - n) (by omega)
        rw [show n + (j - n) = j by omega] at h5
        have := h128 (j - n) (by omega)
        rw [h5, nI_toInt (by omega)]
        omega
      · rw [e6 j (by omega)]; exact h.byt j hj
  · show I2 v j = nI ((Z.2 ++ l).getD j 0) ∧ (Z.2 ++ l).getD j 0 < 128
    by_cases q : j < n
    · have e : (Z.2 ++ l).getD j 0 = Z.2.getD j 0 := by
        rw [List.getD_eq_getElem?_getD, List.getD_eq_getElem?_getD, List.getElem?_append_left (by omega)]
      rw [e4 j q, e]; exact h.ltr0 j q
    · have e : (Z.2 ++ l).getD j 0 = l.getD (j - n) 0 := by
        rw [List.getD_eq_getElem?_getD, List.getD_eq_getElem?_getD, List.getElem?_append_right (by omega), ← hn]
      have h5 := e5 (j - n) (by omega)
      rw [show n + (j - n) = j by omega] at h5
      rw [h5, e]
      exact ⟨rfl, h128 (j - n) (by omega)⟩
/-- what is told of a text, where it lies -/
theorem LAYB.lb {I0 I' : IT} {l : List Nat} (h : LAYB G I0 I') (t : tobj I0 b 2 l) : ∃ v cap, G.2.2 b 0 = some v ∧ LB b G ((G, I', v), l) I' v cap l.length := by
  obtain ⟨o1, o2, o3, o4, v, cap, o5, o6, o7, o8, o9, o10, -, o12, o13, o14, o15⟩ := h.2.2.2.1 b 2 l t
  exact ⟨v, cap, o5, ⟨o1, Nat.le_refl _, fun _ _ => rfl, fun _ _ _ => rfl, fun _ _ _ _ => rfl, Or.inl rfl⟩, ⟨h.1.1, o7, o2⟩, o5, o6, o8, o9, o10 rfl, rfl, o12, o13, o3, o14, fun j hj => ⟨o15 j hj, o4 j hj⟩⟩
theorem LB.obj (h : LB b G Z I v cap n) : OBJ G I b 2 Z.2 := by
  have hn : n = Z.2.length := h.len
  subst hn
  exact ⟨h.lt, h.sh, h.n150, fun j hj => (h.ltr0 j hj).2, v, cap, h.val, h.vlt, h.2.1.2.1, h.vsh, h.cod, fun _ => h.cnt, fun e => absurd e (by decide), h.le, h.c320, h.byt, fun j hj => (h.ltr0 j hj).1⟩
/-- the letters of b have changed, all else stands -/
theorem LB.lay {G0 : GT} {I0 I1 M0 : IT} {v0 : Nat} {l l' : List Nat} (h0 : LAYB G0 I0 M0) (t : tobj I0 b 2 l) (hv0 : G0.2.2 b 0 = some v0) (h : LB b G ((G0, M0, v0), l') I v cap n) (t1 : tobj I1 b 2 l') (hI : ∀ k, k ≠ b → (b = 60 → k ≠ 61) → I1 k = I0 k) : LAYB G I1 I := by
  obtain ⟨a1, a2, a3, a4, a5, a6⟩ := h.1
  have a1 : b < G0.1 := a1
  have a2 : G0.1 ≤ G.1 := a2
  have a3 : ∀ k, k < G0.1 → G.2.1 k = G0.2.1 k := a3
  have a4 : ∀ k, k < G0.1 → k ≠ b → G.2.2 k = G0.2.2 k := a4
  have a5 : ∀ k, k < G0.1 → k ≠ b → k ≠ v0 → I k = M0 k := a5
  have a6 : v = v0 ∨ G0.1 ≤ v := a6
  obtain ⟨⟨c1, c2, c3⟩, d, ⟨l0, e⟩, f, g⟩ := h0
  have hb := t.at
  have ob := f b 2 l t
  have hvk : v0 = 61 ∨ 190 ≤ v0 := by
    obtain ⟨-, -, -, -, v1, cap1, o5, -, o7, -⟩ := ob
    rw [hv0] at o5
    cases o5
    exact o7
  -- what is told of another
  have other : ∀ a k m, tobj I1 a k m → a ≠ b → tobj I0 a k m ∧ OBJ G I a k m ∧ G.2.2 a 0 = G0.2.2 a 0 := by
    intro a k m ha hne
    have ha2 := ha.at
    have ha0 : tobj I0 a k m := ha.congr (hI a hne (fun e0 e1 => by omega)).symm (fun e0 => (hI 61 (by omega) (fun e1 => by omega)).symm)
    have oa := f a k m ha0
    have hlt : a < G0.1 := oa.1
    have hk := ha0.kk
    have hva : a ≠ v0 := by
      intro e0
      obtain ⟨-, o2, -⟩ := oa
      obtain ⟨-, -, -, -, v1, cap1, p5, -, -, p8, -⟩ := ob
      rw [hv0] at p5
      cases p5
      rw [← e0, o2] at p8
      rcases hk with rfl | rfl <;> cases p8
    refine ⟨ha0, ?_, by rw [a4 a hlt hne]⟩
    refine oa.congr a2 (a3 a hlt) (by rw [a4 a hlt hne]) (a5 a hlt hne hva) (fun w hw hwl _ hwk => ⟨a3 w hwl, a5 w hwl ?_ ?_⟩)
    · rintro rfl
      obtain ⟨nn, hnn⟩ := hwk
      rw [ob.2.1] at hnn
      cases hnn
    · rintro rfl
      exact g a b k 2 m l ha0 t hne (hw.trans hv0.symm)
  refine ⟨⟨Nat.le_trans c1 a2, fun k hk e1 => (a3 k (by omega)).trans (c2 k hk e1), fun k j hk e1 => ?_⟩, fun k hk e1 e2 => ?_, ?_, fun a k m ha => ?_, fun a a' k k' m m' ha ha' hne => ?_⟩
  · rw [a4 k (by omega) (by omega)]; exact c3 k j hk e1
  · rw [a5 k (by omega) (by omega) (by omega), hI k (by omega) (fun _ => e2)]; exact d k hk e1 e2
  · rcases t1 with ⟨hb6, -, q⟩ | ⟨q1, -⟩
    · exact ⟨l', q⟩
    · refine ⟨l0, ?_⟩
      unfold LNB
      have q2 : 190 ≤ b := q1.1
      rw [hI 60 (by omega) (fun e0 => by omega), hI 61 (by omega) (fun e0 => by omega)]
      exact e
  · by_cases hne : a = b
    · subst hne
      have hk : k = 2 ∧ m = l' := tobj.inj ha t1
      rw [hk.1, hk.2]
      exact h.obj
    · exact (other a k m ha hne).2.1
  · have hval := h.val
    have hvn : ∀ c kc mc, tobj I1 c kc mc → c ≠ b → G.2.2 c 0 ≠ some v := by
      intro c kc mc hc hcb
      obtain ⟨q1, -, q3⟩ := other c kc mc hc hcb
      rw [q3]
      intro q4
      rcases a6 with e0 | e0
      · rw [e0] at q4
        exact g c b kc 2 mc l q1 t hcb (q4.trans hv0.symm)
      · obtain ⟨-, -, -, -, w, capw, o5, o6, -⟩ := f c kc mc q1
        rw [q4] at o5
        cases o5
        omega
    by_cases h1 : a = b
    · subst h1
      rw [hval]
      exact fun q => hvn a' k' m' ha' (Ne.symm hne) q.symm
    · by_cases h2 : a' = b
      · subst h2
        rw [hval]
        exact hvn a k m ha h1
      · rw [(other a k m ha h1).2.2, (other a' k' m' ha' h2).2.2]
        exact g a a' k k' m m' (other a k m ha h1).1 (other a' k' m' ha' h2).1 hne
/-- a new text at a, all else stands -/
theorem LAYB.mk {G0 : GT} {I0 I1 M0 : IT} {a k : Nat} {l : List Nat} (h0 : LAYB G0 I0 M0) (ha : G0.1 ≤ a) (h1 : G0.1 ≤ G.1) (h2 : ∀ q, q < G0.1 → G.2.1 q = G0.2.1 q) (h3 : ∀ q, q < G0.1 → G.2.2 q = G0.2.2 q) (h4 : ∀ q, q < G0.1 → I q = M0 q) (ho : OBJ G I a k l) (hv : ∀ v, G.2.2 a 0 = some v → G0.1 ≤ v) (t1 : tobj I1 a k l) (hI : ∀ q, q ≠ a → I1 q = I0 q) : LAYB G I1 I := by
  obtain ⟨⟨c1, c2, c3⟩, d, ⟨l0, e⟩, f, g⟩ := h0
  have other : ∀ b kb m, tobj I1 b kb m → b ≠ a → tobj I0 b kb m ∧ OBJ G I b kb m ∧ G.2.2 b 0 = G0.2.2 b 0 := by
    intro b kb m hb hne
    have hb0 : tobj I0 b kb m := hb.congr (hI b hne).symm (fun e0 => (hI 61 (by omega)).symm)
    have ob := f b kb m hb0
    have hlt : b < G0.1 := ob.1
    exact ⟨hb0, ob.congr h1 (h2 b hlt) (by rw [h3 b hlt]) (h4 b hlt) (fun w _ hwl _ _ => ⟨h2 w hwl, h4 w hwl⟩), by rw [h3 b hlt]⟩
  refine ⟨⟨Nat.le_trans c1 h1, fun q hq e1 => (h2 q (by omega)).trans (c2 q hq e1), fun q j hq e1 => ?_⟩, fun q hq e1 e2 => ?_, ⟨l0, ?_⟩, fun b kb m hb => ?_, fun b b' kb kb' m m' hb hb' hne => ?_⟩
  · rw [h3 q (by omega)]; exact c3 q j hq e1
  · rw [h4 q (by omega), hI q (by omega)]; exact d q hq e1 e2
  · unfold LNB
    rw [hI 60 (by omega), hI 61 (by omega)]
    exact e
  · by_cases hne : b = a
    · subst hne
      have hk : kb = k ∧ m = l := tobj.inj hb t1
      rw [hk.1, hk.2]
      exact ho
    · exact (other b kb m hb hne).2.1
  · have hvn : ∀ c kc mc, tobj I1 c kc mc → c ≠ a → G.2.2 c 0 ≠ G.2.2 a 0 := by
      intro c kc mc hc hca
      obtain ⟨q1, -, q3⟩ := other c kc mc hc hca
      intro q4
      obtain ⟨-, -, -, -, w, capw, o5, o6, -⟩ := f c kc mc q1
      have := hv w (by rw [← q4, q3]; exact o5)
      omega
    by_cases q1 : b = a
    · subst q1
      exact fun q => hvn b' kb' m' hb' (Ne.symm hne) q.symm
    · by_cases q2 : b' = a
      · subst q2
        exact hvn b kb m hb q1
      · rw [(other b kb m hb q1).2.2, (other b' kb' m' hb' q2).2.2]
        exact g b b' kb kb' m m' (other b kb m hb q1).1 (other b' kb' m' hb' q2).1 hne
end LBs2
