theorem q_dr {X : XT} {D : DT} {nL c w : Nat} {I : IT} {L : LT} {pc : Nat} {ls ls' st : List Value} (k : J2 X D nL c w I L pc ls' st) (hs : subL ls' ls) : J2 X D nL c w I L pc ls st := q_drop hs k
theorem hou_n {a : Nat} (h : houL.contains a = true) : isHou a := h
theorem ket_n {a : Nat} (h : (a == 50 || (houL.map (· + 1)).contains a) = true) : isKet a := h
theorem ord_n {a : Nat} (h : (houL.map (· + 7)).contains a = true) : isOrd a := h
theorem led_n {a : Nat} (h : (houL.map (· + 13)).contains a = true) : isLed a := h
theorem str_n {a : Nat} (h : (decide (1000053 ≤ a) && decide (a < 1000067)) = true) : isStr a := h
/-! ===== Enum.ordinal of a verb ===== -/
def m_ord : MD := (⟨"java/lang/Enum", "ordinal", "()I"⟩, prog_20_method_2_code, 1, some .int)
theorem dE_ord_0 : decode prog_20_method_2_code 0 = .ok (.aload_n 0, 1) := by decide +kernel
theorem dE_ord_1 : decode prog_20_method_2_code 1 = .ok (.getfield 7, 3) := by decide +kernel
theorem dE_ord_4 : decode prog_20_method_2_code 4 = .ok (.ireturn, 1) := by decide +kernel
theorem lk_ord : LkU "TeaHouse$House" 83 "TeaHouse$Verb" "java/lang/Enum" ⟨"TeaHouse$Verb", "ordinal", "()I"⟩ m_ord 0 := ⟨TW_of (i := 519) (by decide +kernel) (by decide +kernel), TW_of (i := 520) (by decide +kernel) (by decide +kernel), TW_of (i := 522) (by decide +kernel) (by decide +kernel), TW_of (i := 523) (by decide +kernel) (by decide +kernel), rfl, TW_of (i := 35) (by decide +kernel) (by decide +kernel), TW_of (i := 524) (by decide +kernel) (by decide +kernel), ⟨by decide +kernel, by decide +kernel⟩, by decide +kernel, by decide⟩
theorem gc_ord : Cond.fieldLink "java/lang/Enum" 7 "java/lang/Enum" "ordinal" "I" ∈ TW := TW_of (i := 1503) (by decide +kernel) (by decide +kernel)
set_option maxRecDepth 100000 in
set_option maxHeartbeats 4000000 in
theorem c_ord {l : Launch} {D : DT} {G : GT} {I : IT} {L : LT} {v : Nat} (hv : isVer v) : Con l D m_ord 1 [.ref v] 0 0 G I L (Pq G L fun r I' => r = some (.int (nI (ordN v))) ∧ I' = I) := by
  refine Con.of (by decide +kernel) (by simp [Value.category]) (Nat.le_of_ble_eq_true rfl) (Or.inl rfl) (fun X hX hT _ => ?_)
  have hX : OK X D prog_20_method_2_code "java/lang/Enum" 1 := hX
  change J X D 1 0 0 _ _ _ 0 [.ref v] []
  refine r_aload_n hX dE_ord_0 rfl ?_
  have hm : ("java/lang/Enum", "ordinal", "I", Value.int (nI (ordN v)), v - 1000000) ∈ cF := ver_cases (P := fun v => ("java/lang/Enum", "ordinal", "I", Value.int (nI (ordN v)), v - 1000000) ∈ cF) (by decide +kernel) hv
  have h2 := r_getC (G := G) (I := I) (L := L) (ls := [.ref v]) (st := []) (c := 0) (w := 0) hX hm gc_ord dE_ord_1 (r_iretQ hX hT dE_ord_4 rfl ⟨rfl, rfl⟩)
  rwa [Nat.add_sub_cancel' hv.1] at h2
section Prims
variable {X : XT} {D : DT} {cc : ByteArray} {own : String} {nL c w : Nat} {G : GT} {I : IT} {L : LT} {pc : Nat} {ls st : List Value} {l0 : Launch} {d mc ms : Nat}
theorem q_ord (hX : OK X D cc own nL) (hR : Room2 X l0 D d mc ms) {idx v : Nat} (lk : LkU own idx "TeaHouse$Verb" "java/lang/Enum" ⟨"TeaHouse$Verb", "ordinal", "()I"⟩ m_ord 0) (dd : decode cc pc = .ok (.invokevirtual idx, 3)) (hv : isVer v) (hd : 1 + 1 ≤ d) (h1 : c ≤ mc) (h2 : w ≤ ms) (k : J2 X D nL c w I L (pc + 3) ls (.int (nI (ordN v)) :: st)) (hcat : (st.map fun v => v.category).sum ≤ 8 := by exact Nat.le_of_ble_eq_true rfl) : J2 X D nL c w I L pc ls (.ref v :: st) := by
  intro G I' hl
  have hO : ("TeaHouse$Verb", v - 1000000) ∈ cO := ver_cases (P := fun v => ("TeaHouse$Verb", v - 1000000) ∈ cO) (by decide +kernel) hv
  refine r_Uq (b := v) hX hR (c_ord hv) lk (Or.inr ⟨v - 1000000, (Nat.add_sub_cancel' hv.1).symm, hO⟩) dd rfl rfl hcat hd h1 h2 ?_
  rintro r I2 ⟨rfl, rfl⟩
  exact k G _ hl
/-! throws: the text by a wide index -/
theorem r_throwW {P : Res → GT → IT → LT → Prop} (hX : OK X D cc own nL) {ret : Option FieldType} (hT : RT X l0 D ret P d mc ms) (hflag : l0.stackTraces = false) {ik ic is code : Nat} {cls text : String} (tw : ThW own ik ic cls) (hq : (own, is, text, code) ∈ cS)
    (d0 : decode cc pc = .ok (.new ik, 3)) (d3 : decode cc (pc + 3) = .ok (.dup, 1)) (d4 : decode cc (pc + 4) = .ok (.ldc_w is, 3)) (d7 : decode cc (pc + 7) = .ok (.invokespecial ic, 3)) (d10 : decode cc (pc + 10) = .ok (.athrow, 1))
    (hcat : (st.map fun v => v.category).sum ≤ 8) (hd : 6 ≤ d) (h : ∀ n, G.1 ≤ n → P (.inr cls) (gGrow G n) I L) (h1 : c + 1 ≤ mc) (h2 : w + 6 ≤ ms) : J X D nL c w G I L pc ls st := by
  obtain ⟨p, l, e, R, s, m, args, below, meth, c0, Q⟩ := X
  intro H locs lsA hR hz hl hL
  obtain ⟨hx, hby, hml, hown, hts, hF, hlk, hsz, h0⟩ := id hX
  obtain ⟨hQ, hr, ⟨rfl, R1, R2, R3, R4, R5⟩, htab⟩ := hT
  subst hQ
  obtain ⟨t1, t2, t3, t4⟩ := tw
  have hc2 := map_cat (D := D) st
  refine vx_throwSW (A := Ad D) hx hby hflag hown t1 (by decide) (hts _ t2) (hts _ t3) (hF.2.2.2.2.2.1 _ hq) (fun w hw => hts _ (t4 w hw)) (fun w hw => ?_) (hF.2.2.2.2.2.2.1.kept (old_kept h0)) (hF.2.2.2.2.2.2.2.1.kept (old_kept h0)) (Facts.S h0 hR hz hl) (by rw [hml]; exact hL.2.1) d0 d3 d4 d7 d10 (fun x hx => (htab x hx).elim) (by show 2 + 3 < R.frames; omega) (by show _ + (13 * (2 + 1) + 43) ≤ R.locals; omega) (by omega) (by omega) hlk (fun t ha hz1 ho => ?_) hl h1 h2
  · rcases List.mem_cons.mp hw with rfl | hw
    · exact vx_ot_TW t2
    · rcases List.mem_cons.mp hw with rfl | hw
      · exact vx_ot_TW t3
      · exact vx_ot_TW (t4 _ hw)
  · have hn : t.heap.size = D.1 + (t.heap.size - D.1) := by have := hR.1; omega
    exact ⟨gGrow G (t.heap.size - D.1), I, L, h _ (by have := hR.1; omega), RelX.grow hR hn hz1 ho, by omega⟩
theorem q_throwW {P : Res → IT → LT → Prop} {KT : String → IT → Prop} (hX : OK X D cc own nL) {ret : Option FieldType} (hT : RT X l0 D ret (P2 (Px P L KT)) d mc ms) (hflag : l0.stackTraces = false) {ik ic is code : Nat} {cls text : String} (tw : ThW own ik ic cls) (hq : (own, is, text, code) ∈ cS)
    (d0 : decode cc pc = .ok (.new ik, 3)) (d3 : decode cc (pc + 3) = .ok (.dup, 1)) (d4 : decode cc (pc + 4) = .ok (.ldc_w is, 3)) (d7 : decode cc (pc + 7) = .ok (.invokespecial ic, 3)) (d10 : decode cc (pc + 10) = .ok (.athrow, 1))
    (hcat : (st.map fun v => v.category).sum ≤ 8) (hd : 6 ≤ d) (h : KT cls I) (h1 : c + 1 ≤ mc) (h2 : w + 6 ≤ ms) : J2 X D nL c w I L pc ls st :=
  fun G I' hl => r_throwW hX hT hflag tw hq d0 d3 d4 d7 d10 hcat hd (fun n hn => ⟨I, hl.grow hn, Or.inr ⟨rfl, cls, rfl, h⟩⟩) h1 h2
theorem q_throwWp {P : Res → IT → LT → Prop} {KT : String → Prop} (hX : OK X D cc own nL) {ret : Option FieldType} (hT : RT X l0 D ret (P2 (Px P L (fun E I' => I' = I ∧ KT E))) d mc ms) (hflag : l0.stackTraces = false) {ik ic is code : Nat} {cls text : String} (tw : ThW own ik ic cls) (hq : (own, is, text, code) ∈ cS)
    (d0 : decode cc pc = .ok (.new ik, 3)) (d3 : decode cc (pc + 3) = .ok (.dup, 1)) (d4 : decode cc (pc + 4) = .ok (.ldc_w is, 3)) (d7 : decode cc (pc + 7) = .ok (.invokespecial ic, 3)) (d10 : decode cc (pc + 10) = .ok (.athrow, 1))
    (hcat : (st.map fun v => v.category).sum ≤ 8) (hd : 6 ≤ d) (h : KT cls) (h1 : c + 1 ≤ mc) (h2 : w + 6 ≤ ms) : J2 X D nL c w I L pc ls st := q_throwW hX hT hflag tw hq d0 d3 d4 d7 d10 hcat hd ⟨rfl, h⟩ h1 h2
/-- NoSuchElementException: its constructor calls on by another entry -/
def ThN (own : String) (ik ic : Nat) (cls : String) : Prop := own = "TeaHouse" ∧ ik = 398 ∧ ic = 402 ∧ cls = "java/util/NoSuchElementException"
theorem th_398 : ThN "TeaHouse" 398 402 "java/util/NoSuchElementException" := ⟨rfl, rfl, rfl, rfl⟩
theorem q_throwWN {P : Res → IT → LT → Prop} {KT : String → IT → Prop} (hX : OK X D cc own nL) {ret : Option FieldType} (hT : RT X l0 D ret (P2 (Px P L KT)) d mc ms) (hflag : l0.stackTraces = false) {ik ic is code : Nat} {cls text : String} (tw : ThN own ik ic cls) (hq : (own, is, text, code) ∈ cS)
    (d0 : decode cc pc = .ok (.new ik, 3)) (d3 : decode cc (pc + 3) = .ok (.dup, 1)) (d4 : decode cc (pc + 4) = .ok (.ldc_w is, 3)) (d7 : decode cc (pc + 7) = .ok (.invokespecial ic, 3)) (d10 : decode cc (pc + 10) = .ok (.athrow, 1))
    (hcat : (st.map fun v => v.category).sum ≤ 8) (hd : 6 ≤ d) (h : KT cls I) (h1 : c + 1 ≤ mc) (h2 : w + 6 ≤ ms) : J2 X D nL c w I L pc ls st := by
  obtain ⟨rfl, rfl, rfl, rfl⟩ := tw
  exact fun G I' hl => r_throwWN hX hT hflag hq d0 d3 d4 d7 d10 hcat hd (fun n hn => ⟨I, hl.grow hn, Or.inr ⟨rfl, _, rfl, h⟩⟩) h1 h2
theorem q_throwWNp {P : Res → IT → LT → Prop} {KT : String → Prop} (hX : OK X D cc own nL) {ret : Option FieldType} (hT : RT X l0 D ret (P2 (Px P L (fun E I' => I' = I ∧ KT E))) d mc ms) (hflag : l0.stackTraces = false) {ik ic is code : Nat} {cls text : String} (tw : ThN own ik ic cls) (hq : (own, is, text, code) ∈ cS)
    (d0 : decode cc pc = .ok (.new ik, 3)) (d3 : decode cc (pc + 3) = .ok (.dup, 1)) (d4 : decode cc (pc + 4) = .ok (.ldc_w is, 3)) (d7 : decode cc (pc + 7) = .ok (.invokespecial ic, 3)) (d10 : decode cc (pc + 10) = .ok (.athrow, 1))
    (hcat : (st.map fun v => v.category).sum ≤ 8) (hd : 6 ≤ d) (h : KT cls) (h1 : c + 1 ≤ mc) (h2 : w + 6 ≤ ms) : J2 X D nL c w I L pc ls st := q_throwWN hX hT hflag tw hq d0 d3 d4 d7 d10 hcat hd ⟨rfl, h⟩ h1 h2
end Prims
