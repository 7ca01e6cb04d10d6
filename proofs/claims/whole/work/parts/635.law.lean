/-! ===== the law's methods: their handlers, their cells, the script ===== -/
def exL : List String := ["java/lang/IndexOutOfBoundsException", "java/lang/IllegalArgumentException", "java/lang/IllegalStateException", "java/util/NoSuchElementException", "java/lang/ArithmeticException"]
/-- the class that an entry of the law's pool names -/
def nmL (ct : Nat) : String := if ct = 13 then "java/lang/IllegalArgumentException" else if ct = 15 then "java/lang/IllegalStateException" else if ct = 21 then "java/lang/IndexOutOfBoundsException" else if ct = 34 then "java/util/NoSuchElementException" else "java/lang/ArithmeticException"
def ctL : List Nat := [13, 15, 21, 34, 122]
theorem cl_L_13 : Cond.classLink "TeaHouseLaw" 13 "java/lang/IllegalArgumentException" ∈ TW := TW_of (i := 1149) (by decide +kernel) (by decide +kernel)
theorem cl_L_15 : Cond.classLink "TeaHouseLaw" 15 "java/lang/IllegalStateException" ∈ TW := TW_of (i := 1150) (by decide +kernel) (by decide +kernel)
theorem cl_L_21 : Cond.classLink "TeaHouseLaw" 21 "java/lang/IndexOutOfBoundsException" ∈ TW := TW_of (i := 1160) (by decide +kernel) (by decide +kernel)
theorem cl_L_34 : Cond.classLink "TeaHouseLaw" 34 "java/util/NoSuchElementException" ∈ TW := TW_of (i := 1190) (by decide +kernel) (by decide +kernel)
theorem cl_L_122 : Cond.classLink "TeaHouseLaw" 122 "java/lang/ArithmeticException" ∈ TW := TW_of (i := 1429) (by decide +kernel) (by decide +kernel)
theorem ca_13 : Cond.castable "java/lang/IllegalArgumentException" "java/lang/IllegalArgumentException" ∈ TW := TW_of (i := 522) (by decide +kernel) (by decide +kernel)
theorem ca_15 : Cond.castable "java/lang/IllegalStateException" "java/lang/IllegalStateException" ∈ TW := TW_of (i := 539) (by decide +kernel) (by decide +kernel)
theorem ca_21 : Cond.castable "java/lang/IndexOutOfBoundsException" "java/lang/IndexOutOfBoundsException" ∈ TW := TW_of (i := 450) (by decide +kernel) (by decide +kernel)
theorem ca_34 : Cond.castable "java/util/NoSuchElementException" "java/util/NoSuchElementException" ∈ TW := TW_of (i := 556) (by decide +kernel) (by decide +kernel)
theorem ca_122 : Cond.castable "java/lang/ArithmeticException" "java/lang/ArithmeticException" ∈ TW := TW_of (i := 1441) (by decide +kernel) (by decide +kernel)
theorem cl_all : ∀ ct ∈ ctL, Cond.classLink "TeaHouseLaw" ct (nmL ct) ∈ TW := by
  intro ct h
  simp only [ctL, List.mem_cons, List.not_mem_nil, or_false] at h
  rcases h with rfl | rfl | rfl | rfl | rfl
  · exact cl_L_13
  · exact cl_L_15
  · exact cl_L_21
  · exact cl_L_34
  · exact cl_L_122
/-- none of the five is another -/
def NC (U : State) : Prop := ∀ a ∈ exL, ∀ b ∈ exL, a ≠ b → va_Nc a b U
theorem NC.moved {u U : State} (hvm : u.vm.Alike U.vm) (h : NC u) : NC U := fun a ha b hb e => va_Nc.moved hvm (h a ha b hb e)
def NCX (X : XT) : Prop := match X with
  | (p, l, e, R, s, m, args, below, meth, c, Q) => NC s
def TBX (X : XT) (hh : List (Nat × Nat × Nat × Nat)) : Prop := match X with
  | (p, l, e, R, s, m, args, below, meth, c, Q) => c.exceptionTable.toList = tableOf hh
def PcMN (D : DT) (av : List Value) (G : GT) (I : IT) (L : LT) : Array Value → State → Prop := va_Pc (av.map (tv D)) (fun U => Rel D G I L U.heap ∧ Facts D U ∧ NC U)
theorem PcMN.blind {D : DT} {av : List Value} {G : GT} {I : IT} {L : LT} : FrameBlind (PcMN D av G I L) := fun a U g mk h => ⟨h.1, h.2.1, Facts.calling h.2.2.1, h.2.2.2.moved (Vm.Alike.refl U.vm)⟩
def ConW (l : Launch) (D : DT) (M : MD) (hh : List (Nat × Nat × Nat × Nat)) (d : Nat) (av : List Value) (mc ms : Nat) (I : IT) (L : LT) (P : Res → IT → LT → Prop) : Prop := ∀ (G : GT) (I' : IT), LAYB G I I' → (mc = 0 ∨ G.1 + mc < 1000000) →
  vx_Met l M.1 (Cond.codeWith M.1 M.2.1 M.2.2.1 M.2.2.2 hh :: TW) (rmD d mc ms) (PcMN D av G I' L) (QcP D (P2 P)) (XCP D (P2 P)) mc ms (Ad D)
def RTL (X : XT) (l0 : Launch) (D : DT) (ret : Option FieldType) (P : Res → GT → IT → LT → Prop) (d mc ms : Nat) : Prop := Room2 X l0 D d mc ms ∧ match X with
  | (p, l, e, R, s, m, args, below, meth, c, Q) => Q = vx_MQ below (QcP D P) (XCP D P) args s mc ms (Ad D) ∧ meth.sig.returnType = ret
def PL (K : Int32 → IT → LT → Prop) : Res → IT → LT → Prop := fun r I' L' => ∃ x, r = .inl (some (.int x)) ∧ K x I' L'
theorem ConW.of {l : Launch} {D : DT} {M : MD} {hh : List (Nat × Nat × Nat × Nat)} {d mc ms : Nat} {av : List Value} {I : IT} {L : LT} {P : Res → IT → LT → Prop} (hy : plainName M.1.cls = true) (hc : ∀ v ∈ av, v.category = 1) (hn : av.length ≤ M.2.2.1)
    (body : ∀ X : XT, OK X D M.2.1 M.1.cls M.2.2.1 → RTL X l D M.2.2.2 (P2 P) d mc ms → NCX X → TBX X hh → J2 X D M.2.2.1 0 0 I L 0 (ent av M.2.2.1) []) : ConW l D M hh d av mc ms I L P := by
  intro G I' hlb hb
  refine vx_ofWH (cc := M.2.1) (maxL := M.2.2.1) (ret := M.2.2.2) (hh := hh) hy rfl ?_
  intro p e s m args below meth c s₁ B hml hv
  obtain ⟨rfl, hR, hF, hN⟩ := hv
  have hts := atoms_spec (ws := Cond.codeWith M.1 M.2.1 M.2.2.1 M.2.2.2 hh :: TW) B.pre
  have hown : s.vm.findClass M.1.cls = some m.cls := findClass_of_methodNamed B.named
  have hl := lv_entry (av.map (tv D)) (n := M.2.2.1) (by rw [lg_sl_len av hc]; exact hn)
  rw [lg_entry_eq]
  generalize (lg_sl (av.map (tv D)) ++ List.replicate (M.2.2.1 - (lg_sl (av.map (tv D))).length) Slot.unset).toArray = ls at hl ⊢
  have hX : OK (p, l, e, (headSpec (Cond.codeWith M.1 M.2.1 M.2.2.1 M.2.2.2 hh :: TW) (rmD d mc ms)).room, s, m, (av.map (tv D)).toArray, below, meth, c, vx_MQ below (QcP D (P2 P)) (XCP D (P2 P)) (av.map (tv D)).toArray s mc ms (Ad D)) D M.2.1 M.1.cls M.2.2.1 :=
    ⟨B.exec, B.bytes, hml, hown, fun w hw => hts w (List.mem_cons_of_mem _ hw), hF, B.notSynchronized, by rw [hR.1]; exact Nat.le_add_right _ _, hR.2.2.1⟩
  have h := body _ hX ⟨⟨rfl, Nat.le_refl _, Nat.le_refl _, Nat.le_refl _, Nat.le_refl _, by
    show s.heap.size + mc < D.1 + 1000000
    have h1 := hR.1
    have h2 := hR.2.1
    rcases hb with rfl | hb <;> omega⟩, rfl, B.returns⟩ hN (vx_table (x := M.1) B (hts _ List.mem_cons_self))
  exact h G I' hlb s.heap [] ls hR (Nat.le_refl _) (fun q h => by cases h) ⟨by simp [ent]; omega, lv_mono hl (lprs_pad av 0 _ hc)⟩
def WX (X : XT) (D : DT) (nL c w : Nat) (H : Heap) (locs : List Loc) (lsA : Array Slot) (ls : List Value) (hp q : Nat) : Prop := match X with
  | (p, l, e, R, s, m, args, below, meth, c0, Q) => s.heap.size ≤ H.size → (∀ q ∈ locs, D.1 ≤ q.base) → lsR D nL lsA ls → W p l e R s m args below meth c0 H locs c w Q (F0 m hp lsA [.ref q])
section LawQ
variable {X : XT} {D : DT} {cc : ByteArray} {own : String} {nL c w : Nat} {I : IT} {L : LT} {pc : Nat} {ls st stk : List Value} {l0 : Launch} {d mc ms : Nat}
theorem q_iretL (hX : OK X D cc own nL) {v : Int32} {K : Int32 → IT → LT → Prop} (hT : RTL X l0 D (some .int) (P2 (PL K)) d mc ms) (dd : decode cc pc = .ok (.ireturn, 1)) (h : K v I L) (h1 : c ≤ mc) (h2 : w ≤ ms) : J2 X D nL c w I L pc ls [.int v] := by
  obtain ⟨p, l, e, R, s, m, args, below, meth, c0, Q⟩ := X
  intro G I' hlb H locs lsA hR hz hl hL
  obtain ⟨-, hQ, hr⟩ := hT
  subst hQ
  have hlocks := hX.2.2.2.2.2.2.1
  exact W.widen (k := mc) (n := ms) h1 h2 (vx_ret (W.zret hX.1 hX.2.1 hr rfl (fun t ht hW => ⟨some (.int v), G, I', L, rfl, ⟨I, hlb, v, rfl, h⟩, by rw [ht]; exact hR, by rw [ht]; exact hz⟩) hl dd hlocks))
theorem q_lald (hX : OK X D cc own nL) (dd : decode cc pc = .ok (.laload, 1)) (k : J2 X D nL c w I L (pc + 1) ls (.long (L.1 195 0) :: st)) : J2 X D nL c w I L pc ls (.int (nI 0) :: .ref 195 :: st) := by
  intro G I' hl
  have h : AT 195 25 1 := at_of rfl
  exact r_laldL hX dd (hl.lt h) (hl.sh h) rfl (by decide) (by decide) (k G I' hl)
theorem q_dald (hX : OK X D cc own nL) (dd : decode cc pc = .ok (.daload, 1)) (k : J2 X D nL c w I L (pc + 1) ls (.double (L.2 196 0) :: st)) : J2 X D nL c w I L pc ls (.int (nI 0) :: .ref 196 :: st) := by
  intro G I' hl
  have h : AT 196 26 1 := at_of rfl
  exact r_dald hX dd (hl.lt h) (hl.sh h) rfl (by decide) (by decide) (k G I' hl)
theorem q_last (hX : OK X D cc own nL) {x : Int64} (dd : decode cc pc = .ok (.lastore, 1)) (k : J2 X D nL c w I (up2 L.1 195 0 x, L.2) (pc + 1) ls st) : J2 X D nL c w I L pc ls (.long x :: .int (nI 0) :: .ref 195 :: st) := by
  intro G I' hl
  have h : AT 195 25 1 := at_of rfl
  exact r_last hX dd (hl.lt h) (hl.sh h) rfl (by decide) (by decide) (k G I' hl)
theorem q_dast (hX : OK X D cc own nL) {x : UInt64} (dd : decode cc pc = .ok (.dastore, 1)) (k : J2 X D nL c w I (L.1, up2 L.2 196 0 x) (pc + 1) ls st) : J2 X D nL c w I L pc ls (.double x :: .int (nI 0) :: .ref 196 :: st) := by
  intro G I' hl
  have h : AT 196 26 1 := at_of rfl
  exact r_dast hX dd (hl.lt h) (hl.sh h) rfl (by decide) (by decide) (k G I' hl)
theorem q_cs {E k : String} (a : E = k → JT2 X D nL c w I L pc ls E) (b : ¬ E = k → JT2 X D nL c w I L pc ls E) : JT2 X D nL c w I L pc ls E := by
  by_cases h : E = k
  · exact a h
  · exact b h
/-- the handlers ahead of one do not take E -/
def passB (E : String) (l : List ExceptionTableEntry) : Bool := exL.contains E && l.all (fun z => ctL.contains z.catchType && (nmL z.catchType != E && exL.contains (nmL z.catchType)))
theorem catch_core (hX : OK X D cc "TeaHouseLaw" nL) (hN : NCX X) {hh : List (Nat × Nat × Nat × Nat)} (hB : TBX X hh) (i : Nat) {x : ExceptionTableEntry} {E : String} {hp ct : Nat} (hi : (tableOf hh)[i]? = some x) (h2 : x.handlerPc = hp) (h3 : x.catchType = ct) (hx : (covers x pc && decide (ct ≠ 0)) = true) (hlink : Cond.classLink "TeaHouseLaw" ct E ∈ TW) (hcast : Cond.castable E E ∈ TW) (hpass : passB E ((tableOf hh).take i) = true)
    (k : ∀ (G : GT) (I' : IT) (H : Heap) (locs : List Loc) (lsA : Array Slot) (q : Nat), LAYB G I I' → Rel D G I' L H → WX X D nL c w H locs lsA ls hp q) : JT2 X D nL c w I L pc ls E := by
  obtain ⟨p, l, e, R, s, m, args, below, meth, c0, Q⟩ := X
  intro G I' hlb H locs lsA q ce rest hR hz hl hL hq hv hcl
  obtain ⟨hxx, hby, -, hown, hts, hF, -, hsz, h0⟩ := hX
  simp only [Bool.and_eq_true, decide_eq_true_eq] at hx
  simp only [passB, Bool.and_eq_true] at hpass
  subst h2
  subst h3
  have hsp : c0.exceptionTable.toList = (tableOf hh).take i ++ x :: (tableOf hh).drop (i + 1) := by
    rw [show c0.exceptionTable.toList = tableOf hh from hB]
    obtain ⟨hlt, he⟩ := List.getElem?_eq_some_iff.mp hi
    rw [← he, List.getElem_cons_drop, List.take_append_drop]
  have hE := List.contains_iff_mem.mp hpass.1
  refine vx_catch hown _ x _ hsp (fun z hz' => Or.inr ?_) (by simpa using hx.1) hx.2 (hts _ hlink) (hts _ hcast) hq hv hcl (k G I' H locs lsA q hlb hR hz hl hL)
  have hz2 := List.all_eq_true.mp hpass.2 z hz'
  simp only [Bool.and_eq_true, bne_iff_ne] at hz2
  have hm := List.contains_iff_mem.mp hz2.1
  refine ⟨?_, nmL z.catchType, hts _ (cl_all _ hm), hN _ hE _ (List.contains_iff_mem.mp hz2.2.2) (Ne.symm hz2.2.1)⟩
  intro e0
  rw [e0] at hm
  simp [ctL] at hm
theorem lsR_kill {lsA lsA' : Array Slot} {i q : Nat} (hL : lsR D nL lsA ls) (h' : lv_has lsA' nL ((i, .ref q) :: (lprs D 0 ls).filter (fun q => !(q.1 == i) && !(q.1 + 1 == i && q.2.category == 2)))) : lsR D nL lsA' (lset1 ls i (.retAddr 0)) := by
  refine ⟨by rw [lset1_len]; exact hL.1, lv_mono h' fun p hp => ?_⟩
  obtain ⟨k, u, h1, h2, rfl⟩ := lprs_of _ _ _ hp
  rcases lset1_get h1 h2 with ⟨rfl, rfl⟩ | ⟨h3, h4, h5⟩
  · exact absurd rfl (h2 0)
  · refine List.mem_cons_of_mem _ (List.mem_filter.mpr ⟨lprs_mem ls 0 k u h4 h2, ?_⟩)
    simp only [Nat.zero_add, tv_cat, Bool.and_eq_true, Bool.not_eq_true', beq_eq_false_iff_ne, ne_eq, Bool.and_eq_false_imp, beq_iff_eq]
    exact ⟨h3, fun e => fun e2 => h5 ⟨e, e2⟩⟩
theorem q_catch (hX : OK X D cc "TeaHouseLaw" nL) (hN : NCX X) {hh : List (Nat × Nat × Nat × Nat)} (hB : TBX X hh) (i : Nat) {x : ExceptionTableEntry} {E : String} {hp ct j : Nat} (hi : (tableOf hh)[i]? = some x) (h2 : x.handlerPc = hp) (h3 : x.catchType = ct) (hx : (covers x pc && decide (ct ≠ 0)) = true) (hlink : Cond.classLink "TeaHouseLaw" ct E ∈ TW) (hcast : Cond.castable E E ∈ TW) (hpass : passB E ((tableOf hh).take i) = true)
    (dd : decode cc hp = .ok (.astore j, 2)) (hj : j < nL) (k : J2 X D nL c w I L (hp + 2) (lset1 ls j (.retAddr 0)) []) : JT2 X D nL c w I L pc ls E := by
  refine catch_core hX hN hB i hi h2 h3 hx hlink hcast hpass ?_
  intro G I' H locs lsA q hlb hR
  obtain ⟨p, l, e, R, s, m, args, below, meth, c0, Q⟩ := X
  intro hz hl hL
  exact lv_astore hX.1 hX.2.1 dd hL.2 hj rfl (fun lsA' h' => k G I' hlb H locs lsA' hR hz hl (lsR_kill hL h'))
theorem q_catchN (hX : OK X D cc "TeaHouseLaw" nL) (hN : NCX X) {hh : List (Nat × Nat × Nat × Nat)} (hB : TBX X hh) (i : Nat) {x : ExceptionTableEntry} {E : String} {hp ct : Nat} {j : Fin 4} (hi : (tableOf hh)[i]? = some x) (h2 : x.handlerPc = hp) (h3 : x.catchType = ct) (hx : (covers x pc && decide (ct ≠ 0)) = true) (hlink : Cond.classLink "TeaHouseLaw" ct E ∈ TW) (hcast : Cond.castable E E ∈ TW) (hpass : passB E ((tableOf hh).take i) = true)
    (dd : decode cc hp = .ok (.astore_n j, 1)) (hj : (j : Nat) < nL) (k : J2 X D nL c w I L (hp + 1) (lset1 ls (j : Nat) (.retAddr 0)) []) : JT2 X D nL c w I L pc ls E := by
  refine catch_core hX hN hB i hi h2 h3 hx hlink hcast hpass ?_
  intro G I' H locs lsA q hlb hR
  obtain ⟨p, l, e, R, s, m, args, below, meth, c0, Q⟩ := X
  intro hz hl hL
  exact lv_astore_n hX.1 hX.2.1 (i := (j : Nat)) dd rfl hL.2 hj rfl (fun lsA' h' => k G I' hlb H locs lsA' hR hz hl (lsR_kill hL h'))
/-! the script -/
def ScrAt (X : XT) (D : DT) (nn : Nat) (xs : Nat → Int32) : Prop := nn < 100000 ∧ match X with
  | (p, l, e, R, s, m, args, below, meth, c, Q) => ∃ b, ta D 1000300 = b ∧ b < s.heap.size ∧ b < D.1 ∧ va_X b nn xs s s.heap
theorem q_sld (hX : OK X D cc own nL) {nn : Nat} {xs : Nat → Int32} (hS : ScrAt X D nn xs) {i : Int32} (dd : decode cc pc = .ok (.iaload, 1)) (hi : inr i nn) (k : J2 X D nL c w I L (pc + 1) ls (.int (xs (ix i)) :: st)) : J2 X D nL c w I L pc ls (.int i :: .ref 1000300 :: st) := by
  obtain ⟨p, l, e, R, s, m, args, below, meth, c0, Q⟩ := X
  intro G I' hlb H locs lsA hR hz hl hL
  obtain ⟨hn, b, hb, hbs, hbD, hXb⟩ := hS
  obtain ⟨hx, hby, -, hown, hts, hF, -, hsz, h0⟩ := hX
  show W _ _ _ _ _ _ _ _ _ _ _ _ _ _ _ (F0 m pc lsA (.int i :: .ref (ta D 1000300) :: st.map (tv D)))
  rw [hb]
  refine va_sld hx hby hXb hbs (A := Ad D) (Nat.not_le.mpr hbD) (Facts.S h0 hR hz hl) ?_ dd (k G I' hlb H locs lsA hR hz hl hL)
  rw [inr_e hi]
  exact vp_in_nI (inr_lt hi) (by omega)
theorem q_slen (hX : OK X D cc own nL) {nn : Nat} {xs : Nat → Int32} (hS : ScrAt X D nn xs) (dd : decode cc pc = .ok (.arraylength, 1)) (k : J2 X D nL c w I L (pc + 1) ls (.int (nI nn) :: st)) : J2 X D nL c w I L pc ls (.ref 1000300 :: st) := by
  obtain ⟨p, l, e, R, s, m, args, below, meth, c0, Q⟩ := X
  intro G I' hlb H locs lsA hR hz hl hL
  obtain ⟨hn, b, hb, hbs, hbD, hXb⟩ := hS
  obtain ⟨hx, hby, -, hown, hts, hF, -, hsz, h0⟩ := hX
  show W _ _ _ _ _ _ _ _ _ _ _ _ _ _ _ (F0 m pc lsA (.ref (ta D 1000300) :: st.map (tv D)))
  rw [hb]
  exact va_slen hx hby hXb hbs (A := Ad D) (Nat.not_le.mpr hbD) (Facts.S h0 hR hz hl) dd (k G I' hlb H locs lsA hR hz hl hL)
def EndAt (X : XT) (D : DT) (K : Int32 → IT → LT → Prop) (mc ms : Nat) : Prop := ∀ {pc c w : Nat} {x : Int32} {I : IT} {L : LT} {ls : List Value}, decode cL_law pc = .ok (.ireturn, 1) → c ≤ mc → w ≤ ms → K x I L → J2 X D 10 c w I L pc ls [.int x]
def LkSW (own : String) (idx : Nat) (M : MD) (hh : List (Nat × Nat × Nat × Nat)) (n : Nat) : Prop := Cond.methodLink own idx M.1 ∈ TW ∧ Cond.static M.1 ∈ TW ∧ Cond.initialized M.1.cls ∈ TW ∧ Cond.codeWith M.1 M.2.1 M.2.2.1 M.2.2.2 hh ∈ TW ∧ (M.1.cls ≠ "java/lang/invoke/MethodHandle" ∧ M.1.cls ≠ "java/lang/invoke/VarHandle") ∧ (parseMethodDescriptor M.1.desc).map (fun d => d.parameters.length) = some n ∧ M.2.2.1 ≤ 40
theorem q_SW (hX : OK X D cc own nL) (hR : Room2 X l0 D d mc ms) (hN : NCX X) {M : MD} {hh : List (Nat × Nat × Nat × Nat)} {idx n : Nat} {As : List Value} {d' mc' ms' : Nat} {K : Int32 → IT → LT → Prop} (hM : ConW l0 D M hh d' As mc' ms' I L (PL K)) (lk : LkSW own idx M hh n) (dd : decode cc pc = .ok (.invokestatic idx, 3)) (hn : As.length = n) (hs : stk = As.reverse ++ st) (hcat : (st.map fun v => v.category).sum ≤ 8) (hd : d' + 1 ≤ d) (h1 : c + mc' ≤ mc) (h2 : w + ms' ≤ ms)
    (kret : ∀ x I2 L2, K x I2 L2 → J2 X D nL (c + mc') (w + ms') I2 L2 (pc + 3) ls (.int x :: st)) : J2 X D nL c w I L pc ls stk := by
  intro G I' hlb
  refine J.bound hR h1 (fun hbd => ?_)
  have hM := hM G I' hlb (Or.inr hbd)
  obtain ⟨p, l, e, R, s, m, args, below, meth, c0, Q⟩ := X
  intro H locs lsA hRl hz hl hL
  subst hs
  obtain ⟨g1, g2, g3, g4, g5, g6, g7⟩ := lk
  obtain ⟨hx, hby, hml, hown, hts, hF, -, hsz, h0⟩ := id hX
  obtain ⟨rfl, R1, R2, R3, R4, R5⟩ := id hR
  have hst : (As.reverse ++ st).map (tv D) = (As.map (tv D)).reverse ++ st.map (tv D) := by
    rw [List.map_append, List.map_reverse]
  rw [hst]
  have cw : vx_CSW R s args own idx M.1 M.2.1 M.2.2.1 M.2.2.2 hh (Cond.codeWith M.1 M.2.1 M.2.2.1 M.2.2.2 hh :: TW) (rmD d' mc' ms') mc' ms' n :=
    ⟨⟨rfl, rfl, by show d' + 1 ≤ R.frames; omega, by show 8 + (M.2.2.1 + 11) + (64 * d' + 64) ≤ R.locals; omega, code_words hts g4, List.mem_cons_self⟩, hts _ g4, hts _ g3, g5, fun sig hsg => by
      rw [hsg] at g6
      exact (Option.some.inj g6).symm, hts _ g1, hts _ g2⟩
  refine J.call (a := (As.map (tv D)).toArray) (st := st) (vx_runSX (own := own) (As := As.map (tv D)) (rest := st.map (tv D)) ⟨hx, hby, hml, hown, hts⟩ hM cw ⟨PcMN.blind, fun U hU hW => ⟨rfl, by rw [hU]; exact hRl, hF.moved hW, NC.moved hW.alike hN⟩⟩ rfl (by rw [List.length_map]; exact hn) (by show lsA.size = nL; exact hL.2.1) rfl ?_ dd ⟨by omega, by omega⟩) hz hl hL (by omega) R5 ?_ ?_
  · rw [map_cat]
    show 2 * 0 + _ ≤ 8
    omega
  · rintro v G2 I2 L2 ⟨Iv, q1, x, e1, q2⟩
    cases e1
    exact kret x Iv L2 q2 G2 I2 q1
  · rintro E G2 I2 L2 ⟨Iv, q1, x, e1, q2⟩
    cases e1
theorem q_W_v (hX : OK X D cc own nL) (hR : Room2 X l0 D d mc ms) {M : MD} {idx n b : Nat} {C : String} {As : List Value} {d' mc' ms' : Nat} {K : IT → Prop} {KT : String → IT → Prop} (hM : Con2 l0 D M d' (.ref b :: As) mc' ms' I L (Px (Pv L K) L KT)) (lk : LkV own idx C M n) (hrc : RC2 C b) (dd : decode cc pc = .ok (.invokevirtual idx, 3)) (hn : As.length = n) (hs : stk = As.reverse ++ .ref b :: st) (hcat : (st.map fun v => v.category).sum ≤ 8) (hd : d' + 1 ≤ d) (h1 : c + mc' ≤ mc) (h2 : w + ms' ≤ ms) (kret : ∀ I2, K I2 → J2 X D nL (c + mc') (w + ms') I2 L (pc + 3) ls (st)) (kthr : ∀ E I2, KT E I2 → JT2 X D nL (c + mc') (w + ms') I2 L pc ls E) : J2 X D nL c w I L pc ls stk := q_V hX hR hM lk hrc dd hn hs hcat hd h1 h2 (fun v I2 L2 hh => hh.elim (fun hh => by obtain ⟨rfl, e, h⟩ := hh; cases e; exact kret _ h) (fun hh => by obtain ⟨-, E, e, -⟩ := hh; cases e)) (fun E I2 L2 hh => hh.elim (fun hh => by obtain ⟨-, e, -⟩ := hh; cases e) (fun hh => by obtain ⟨rfl, E, e, h⟩ := hh; cases e; exact kthr _ _ h))
theorem q_W_vp (hX : OK X D cc own nL) (hR : Room2 X l0 D d mc ms) {M : MD} {idx n b : Nat} {C : String} {As : List Value} {d' mc' ms' : Nat} {K : Prop} {KT : String → Prop} (hM : Con2 l0 D M d' (.ref b :: As) mc' ms' I L (Px (Pv L (fun I' => I' = I ∧ K)) L (fun E I' => I' = I ∧ KT E))) (lk : LkV own idx C M n) (hrc : RC2 C b) (dd : decode cc pc = .ok (.invokevirtual idx, 3)) (hn : As.length = n) (hs : stk = As.reverse ++ .ref b :: st) (hcat : (st.map fun v => v.category).sum ≤ 8) (hd : d' + 1 ≤ d) (h1 : c + mc' ≤ mc) (h2 : w + ms' ≤ ms) (kret : K → J2 X D nL (c + mc') (w + ms') I L (pc + 3) ls (st)) (kthr : ∀ E, KT E → JT2 X D nL (c + mc') (w + ms') I L pc ls E) : J2 X D nL c w I L pc ls stk := q_V hX hR hM lk hrc dd hn hs hcat hd h1 h2 (fun v I2 L2 hh => hh.elim (fun hh => by obtain ⟨rfl, e, h⟩ := hh; cases e; obtain ⟨rfl, h⟩ := h; exact kret h) (fun hh => by obtain ⟨-, E, e, -⟩ := hh; cases e)) (fun E I2 L2 hh => hh.elim (fun hh => by obtain ⟨-, e, -⟩ := hh; cases e) (fun hh => by obtain ⟨rfl, E, e, h⟩ := hh; cases e; obtain ⟨rfl, h⟩ := h; exact kthr _ h))
theorem q_W_i (hX : OK X D cc own nL) (hR : Room2 X l0 D d mc ms) {M : MD} {idx n b : Nat} {C : String} {As : List Value} {d' mc' ms' : Nat} {K : Int32 → IT → Prop} {KT : String → IT → Prop} (hM : Con2 l0 D M d' (.ref b :: As) mc' ms' I L (Px (Pi L K) L KT)) (lk : LkV own idx C M n) (hrc : RC2 C b) (dd : decode cc pc = .ok (.invokevirtual idx, 3)) (hn : As.length = n) (hs : stk = As.reverse ++ .ref b :: st) (hcat : (st.map fun v => v.category).sum ≤ 8) (hd : d' + 1 ≤ d) (h1 : c + mc' ≤ mc) (h2 : w + ms' ≤ ms) (kret : ∀ x I2, K x I2 → J2 X D nL (c + mc') (w + ms') I2 L (pc + 3) ls (.int x :: st)) (kthr : ∀ E I2, KT E I2 → JT2 X D nL (c + mc') (w + ms') I2 L pc ls E) : J2 X D nL c w I L pc ls stk := q_V hX hR hM lk hrc dd hn hs hcat hd h1 h2 (fun v I2 L2 hh => hh.elim (fun hh => by obtain ⟨rfl, x, e, h⟩ := hh; cases e; exact kret x _ h) (fun hh => by obtain ⟨-, E, e, -⟩ := hh; cases e)) (fun E I2 L2 hh => hh.elim (fun hh => by obtain ⟨-, x, e, -⟩ := hh; cases e) (fun hh => by obtain ⟨rfl, E, e, h⟩ := hh; cases e; exact kthr _ _ h))
theorem q_W_ip (hX : OK X D cc own nL) (hR : Room2 X l0 D d mc ms) {M : MD} {idx n b : Nat} {C : String} {As : List Value} {d' mc' ms' : Nat} {K : Int32 → Prop} {KT : String → Prop} (hM : Con2 l0 D M d' (.ref b :: As) mc' ms' I L (Px (Pi L (fun x I' => I' = I ∧ K x)) L (fun E I' => I' = I ∧ KT E))) (lk : LkV own idx C M n) (hrc : RC2 C b) (dd : decode cc pc = .ok (.invokevirtual idx, 3)) (hn : As.length = n) (hs : stk = As.reverse ++ .ref b :: st) (hcat : (st.map fun v => v.category).sum ≤ 8) (hd : d' + 1 ≤ d) (h1 : c + mc' ≤ mc) (h2 : w + ms' ≤ ms) (kret : ∀ x, K x → J2 X D nL (c + mc') (w + ms') I L (pc + 3) ls (.int x :: st)) (kthr : ∀ E, KT E → JT2 X D nL (c + mc') (w + ms') I L pc ls E) : J2 X D nL c w I L pc ls stk := q_V hX hR hM lk hrc dd hn hs hcat hd h1 h2 (fun v I2 L2 hh => hh.elim (fun hh => by obtain ⟨rfl, x, e, h⟩ := hh; cases e; obtain ⟨rfl, h⟩ := h; exact kret x h) (fun hh => by obtain ⟨-, E, e, -⟩ := hh; cases e)) (fun E I2 L2 hh => hh.elim (fun hh => by obtain ⟨-, x, e, -⟩ := hh; cases e) (fun hh => by obtain ⟨rfl, E, e, h⟩ := hh; cases e; obtain ⟨rfl, h⟩ := h; exact kthr _ h))
theorem q_W_z (hX : OK X D cc own nL) (hR : Room2 X l0 D d mc ms) {M : MD} {idx n b : Nat} {C : String} {As : List Value} {d' mc' ms' : Nat} {K : Int32 → IT → Prop} {KT : String → IT → Prop} (hM : Con2 l0 D M d' (.ref b :: As) mc' ms' I L (Px (Pz L K) L KT)) (lk : LkV own idx C M n) (hrc : RC2 C b) (dd : decode cc pc = .ok (.invokevirtual idx, 3)) (hn : As.length = n) (hs : stk = As.reverse ++ .ref b :: st) (hcat : (st.map fun v => v.category).sum ≤ 8) (hd : d' + 1 ≤ d) (h1 : c + mc' ≤ mc) (h2 : w + ms' ≤ ms) (kret : ∀ x I2, isZ x → K x I2 → J2 X D nL (c + mc') (w + ms') I2 L (pc + 3) ls (.int x :: st)) (kthr : ∀ E I2, KT E I2 → JT2 X D nL (c + mc') (w + ms') I2 L pc ls E) : J2 X D nL c w I L pc ls stk := q_V hX hR hM lk hrc dd hn hs hcat hd h1 h2 (fun v I2 L2 hh => hh.elim (fun hh => by obtain ⟨rfl, x, e, hz, h⟩ := hh; cases e; exact kret x _ hz h) (fun hh => by obtain ⟨-, E, e, -⟩ := hh; cases e)) (fun E I2 L2 hh => hh.elim (fun hh => by obtain ⟨-, x, e, -⟩ := hh; cases e) (fun hh => by obtain ⟨rfl, E, e, h⟩ := hh; cases e; exact kthr _ _ h))
theorem q_W_zp (hX : OK X D cc own nL) (hR : Room2 X l0 D d mc ms) {M : MD} {idx n b : Nat} {C : String} {As : List Value} {d' mc' ms' : Nat} {K : Int32 → Prop} {KT : String → Prop} (hM : Con2 l0 D M d' (.ref b :: As) mc' ms' I L (Px (Pz L (fun x I' => I' = I ∧ K x)) L (fun E I' => I' = I ∧ KT E))) (lk : LkV own idx C M n) (hrc : RC2 C b) (dd : decode cc pc = .ok (.invokevirtual idx, 3)) (hn : As.length = n) (hs : stk = As.reverse ++ .ref b :: st) (hcat : (st.map fun v => v.category).sum ≤ 8) (hd : d' + 1 ≤ d) (h1 : c + mc' ≤ mc) (h2 : w + ms' ≤ ms) (kret : ∀ x, isZ x → K x → J2 X D nL (c + mc') (w + ms') I L (pc + 3) ls (.int x :: st)) (kthr : ∀ E, KT E → JT2 X D nL (c + mc') (w + ms') I L pc ls E) : J2 X D nL c w I L pc ls stk := q_V hX hR hM lk hrc dd hn hs hcat hd h1 h2 (fun v I2 L2 hh => hh.elim (fun hh => by obtain ⟨rfl, x, e, hz, h⟩ := hh; cases e; obtain ⟨rfl, h⟩ := h; exact kret x hz h) (fun hh => by obtain ⟨-, E, e, -⟩ := hh; cases e)) (fun E I2 L2 hh => hh.elim (fun hh => by obtain ⟨-, x, e, -⟩ := hh; cases e) (fun hh => by obtain ⟨rfl, E, e, h⟩ := hh; cases e; obtain ⟨rfl, h⟩ := h; exact kthr _ h))
theorem q_W_c (hX : OK X D cc own nL) (hR : Room2 X l0 D d mc ms) {M : MD} {idx n b : Nat} {C : String} {As : List Value} {d' mc' ms' : Nat} {K : Int32 → IT → Prop} {KT : String → IT → Prop} (hM : Con2 l0 D M d' (.ref b :: As) mc' ms' I L (Px (Pc L K) L KT)) (lk : LkV own idx C M n) (hrc : RC2 C b) (dd : decode cc pc = .ok (.invokevirtual idx, 3)) (hn : As.length = n) (hs : stk = As.reverse ++ .ref b :: st) (hcat : (st.map fun v => v.category).sum ≤ 8) (hd : d' + 1 ≤ d) (h1 : c + mc' ≤ mc) (h2 : w + ms' ≤ ms) (kret : ∀ x I2, isC x → K x I2 → J2 X D nL (c + mc') (w + ms') I2 L (pc + 3) ls (.int x :: st)) (kthr : ∀ E I2, KT E I2 → JT2 X D nL (c + mc') (w + ms') I2 L pc ls E) : J2 X D nL c w I L pc ls stk := q_V hX hR hM lk hrc dd hn hs hcat hd h1 h2 (fun v I2 L2 hh => hh.elim (fun hh => by obtain ⟨rfl, x, e, hz, h⟩ := hh; cases e; exact kret x _ hz h) (fun hh => by obtain ⟨-, E, e, -⟩ := hh; cases e)) (fun E I2 L2 hh => hh.elim (fun hh => by obtain ⟨-, x, e, -⟩ := hh; cases e) (fun hh => by obtain ⟨rfl, E, e, h⟩ := hh; cases e; exact kthr _ _ h))
theorem q_W_cp (hX : OK X D cc own nL) (hR : Room2 X l0 D d mc ms) {M : MD} {idx n b : Nat} {C : String} {As : List Value} {d' mc' ms' : Nat} {K : Int32 → Prop} {KT : String → Prop} (hM : Con2 l0 D M d' (.ref b :: As) mc' ms' I L (Px (Pc L (fun x I' => I' = I ∧ K x)) L (fun E I' => I' = I ∧ KT E))) (lk : LkV own idx C M n) (hrc : RC2 C b) (dd : decode cc pc = .ok (.invokevirtual idx, 3)) (hn : As.length = n) (hs : stk = As.reverse ++ .ref b :: st) (hcat : (st.map fun v => v.category).sum ≤ 8) (hd : d' + 1 ≤ d) (h1 : c + mc' ≤ mc) (h2 : w + ms' ≤ ms) (kret : ∀ x, isC x → K x → J2 X D nL (c + mc') (w + ms') I L (pc + 3) ls (.int x :: st)) (kthr : ∀ E, KT E → JT2 X D nL (c + mc') (w + ms') I L pc ls E) : J2 X D nL c w I L pc ls stk := q_V hX hR hM lk hrc dd hn hs hcat hd h1 h2 (fun v I2 L2 hh => hh.elim (fun hh => by obtain ⟨rfl, x, e, hz, h⟩ := hh; cases e; obtain ⟨rfl, h⟩ := h; exact kret x hz h) (fun hh => by obtain ⟨-, E, e, -⟩ := hh; cases e)) (fun E I2 L2 hh => hh.elim (fun hh => by obtain ⟨-, x, e, -⟩ := hh; cases e) (fun hh => by obtain ⟨rfl, E, e, h⟩ := hh; cases e; obtain ⟨rfl, h⟩ := h; exact kthr _ h))
theorem q_W_f (hX : OK X D cc own nL) (hR : Room2 X l0 D d mc ms) {M : MD} {idx n b : Nat} {C : String} {As : List Value} {d' mc' ms' : Nat} {K : UInt32 → IT → Prop} {KT : String → IT → Prop} (hM : Con2 l0 D M d' (.ref b :: As) mc' ms' I L (Px (Pf L K) L KT)) (lk : LkV own idx C M n) (hrc : RC2 C b) (dd : decode cc pc = .ok (.invokevirtual idx, 3)) (hn : As.length = n) (hs : stk = As.reverse ++ .ref b :: st) (hcat : (st.map fun v => v.category).sum ≤ 8) (hd : d' + 1 ≤ d) (h1 : c + mc' ≤ mc) (h2 : w + ms' ≤ ms) (kret : ∀ x I2, K x I2 → J2 X D nL (c + mc') (w + ms') I2 L (pc + 3) ls (.float x :: st)) (kthr : ∀ E I2, KT E I2 → JT2 X D nL (c + mc') (w + ms') I2 L pc ls E) : J2 X D nL c w I L pc ls stk := q_V hX hR hM lk hrc dd hn hs hcat hd h1 h2 (fun v I2 L2 hh => hh.elim (fun hh => by obtain ⟨rfl, x, e, h⟩ := hh; cases e; exact kret x _ h) (fun hh => by obtain ⟨-, E, e, -⟩ := hh; cases e)) (fun E I2 L2 hh => hh.elim (fun hh => by obtain ⟨-, x, e, -⟩ := hh; cases e) (fun hh => by obtain ⟨rfl, E, e, h⟩ := hh; cases e; exact kthr _ _ h))
theorem q_W_fp (hX : OK X D cc own nL) (hR : Room2 X l0 D d mc ms) {M : MD} {idx n b : Nat} {C : String} {As : List Value} {d' mc' ms' : Nat} {K : UInt32 → Prop} {KT : String → Prop} (hM : Con2 l0 D M d' (.ref b :: As) mc' ms' I L (Px (Pf L (fun x I' => I' = I ∧ K x)) L (fun E I' => I' = I ∧ KT E))) (lk : LkV own idx C M n) (hrc : RC2 C b) (dd : decode cc pc = .ok (.invokevirtual idx, 3)) (hn : As.length = n) (hs : stk = As.reverse ++ .ref b :: st) (hcat : (st.map fun v => v.category).sum ≤ 8) (hd : d' + 1 ≤ d) (h1 : c + mc' ≤ mc) (h2 : w + ms' ≤ ms) (kret : ∀ x, K x → J2 X D nL (c + mc') (w + ms') I L (pc + 3) ls (.float x :: st)) (kthr : ∀ E, KT E → JT2 X D nL (c + mc') (w + ms') I L pc ls E) : J2 X D nL c w I L pc ls stk := q_V hX hR hM lk hrc dd hn hs hcat hd h1 h2 (fun v I2 L2 hh => hh.elim (fun hh => by obtain ⟨rfl, x, e, h⟩ := hh; cases e; obtain ⟨rfl, h⟩ := h; exact kret x h) (fun hh => by obtain ⟨-, E, e, -⟩ := hh; cases e)) (fun E I2 L2 hh => hh.elim (fun hh => by obtain ⟨-, x, e, -⟩ := hh; cases e) (fun hh => by obtain ⟨rfl, E, e, h⟩ := hh; cases e; obtain ⟨rfl, h⟩ := h; exact kthr _ h))
theorem q_W_d (hX : OK X D cc own nL) (hR : Room2 X l0 D d mc ms) {M : MD} {idx n b : Nat} {C : String} {As : List Value} {d' mc' ms' : Nat} {K : UInt64 → IT → Prop} {KT : String → IT → Prop} (hM : Con2 l0 D M d' (.ref b :: As) mc' ms' I L (Px (Pd L K) L KT)) (lk : LkV own idx C M n) (hrc : RC2 C b) (dd : decode cc pc = .ok (.invokevirtual idx, 3)) (hn : As.length = n) (hs : stk = As.reverse ++ .ref b :: st) (hcat : (st.map fun v => v.category).sum ≤ 8) (hd : d' + 1 ≤ d) (h1 : c + mc' ≤ mc) (h2 : w + ms' ≤ ms) (kret : ∀ x I2, K x I2 → J2 X D nL (c + mc') (w + ms') I2 L (pc + 3) ls (.double x :: st)) (kthr : ∀ E I2, KT E I2 → JT2 X D nL (c + mc') (w + ms') I2 L pc ls E) : J2 X D nL c w I L pc ls stk := q_V hX hR hM lk hrc dd hn hs hcat hd h1 h2 (fun v I2 L2 hh => hh.elim (fun hh => by obtain ⟨rfl, x, e, h⟩ := hh; cases e; exact kret x _ h) (fun hh => by obtain ⟨-, E, e, -⟩ := hh; cases e)) (fun E I2 L2 hh => hh.elim (fun hh => by obtain ⟨-, x, e, -⟩ := hh; cases e) (fun hh => by obtain ⟨rfl, E, e, h⟩ := hh; cases e; exact kthr _ _ h))
theorem q_W_dp (hX : OK X D cc own nL) (hR : Room2 X l0 D d mc ms) {M : MD} {idx n b : Nat} {C : String} {As : List Value} {d' mc' ms' : Nat} {K : UInt64 → Prop} {KT : String → Prop} (hM : Con2 l0 D M d' (.ref b :: As) mc' ms' I L (Px (Pd L (fun x I' => I' = I ∧ K x)) L (fun E I' => I' = I ∧ KT E))) (lk : LkV own idx C M n) (hrc : RC2 C b) (dd : decode cc pc = .ok (.invokevirtual idx, 3)) (hn : As.length = n) (hs : stk = As.reverse ++ .ref b :: st) (hcat : (st.map fun v => v.category).sum ≤ 8) (hd : d' + 1 ≤ d) (h1 : c + mc' ≤ mc) (h2 : w + ms' ≤ ms) (kret : ∀ x, K x → J2 X D nL (c + mc') (w + ms') I L (pc + 3) ls (.double x :: st)) (kthr : ∀ E, KT E → JT2 X D nL (c + mc') (w + ms') I L pc ls E) : J2 X D nL c w I L pc ls stk := q_V hX hR hM lk hrc dd hn hs hcat hd h1 h2 (fun v I2 L2 hh => hh.elim (fun hh => by obtain ⟨rfl, x, e, h⟩ := hh; cases e; obtain ⟨rfl, h⟩ := h; exact kret x h) (fun hh => by obtain ⟨-, E, e, -⟩ := hh; cases e)) (fun E I2 L2 hh => hh.elim (fun hh => by obtain ⟨-, x, e, -⟩ := hh; cases e) (fun hh => by obtain ⟨rfl, E, e, h⟩ := hh; cases e; obtain ⟨rfl, h⟩ := h; exact kthr _ h))
end LawQ
def m_L_addKettle : MD := (yL_addKettle, cL_addKettle, 4, some .int)
theorem lk_LW_160 : LkSW "TeaHouseLaw" 160 m_L_addKettle [(0, 9, 12, 13), (0, 9, 15, 15)] 3 := ⟨TW_of (i := 1146) (by decide +kernel) (by decide +kernel), TW_of (i := 1147) (by decide +kernel) (by decide +kernel), TW_of (i := 73) (by decide +kernel) (by decide +kernel), TW_of (i := 1148) (by decide +kernel) (by decide +kernel), ⟨by decide +kernel, by decide +kernel⟩, by decide +kernel, by decide⟩
def m_L_fill : MD := (yL_fill, cL_fill, 5, some .int)
theorem lk_LW_169 : LkSW "TeaHouseLaw" 169 m_L_fill [(0, 10, 13, 21), (0, 10, 17, 13), (0, 10, 21, 15)] 4 := ⟨TW_of (i := 1157) (by decide +kernel) (by decide +kernel), TW_of (i := 1158) (by decide +kernel) (by decide +kernel), TW_of (i := 73) (by decide +kernel) (by decide +kernel), TW_of (i := 1159) (by decide +kernel) (by decide +kernel), ⟨by decide +kernel, by decide +kernel⟩, by decide +kernel, by decide⟩
def m_L_setBurner : MD := (yL_setBurner, cL_setBurner, 5, some .int)
theorem lk_LW_173 : LkSW "TeaHouseLaw" 173 m_L_setBurner [(0, 10, 13, 21), (0, 10, 17, 13)] 4 := ⟨TW_of (i := 1169) (by decide +kernel) (by decide +kernel), TW_of (i := 1170) (by decide +kernel) (by decide +kernel), TW_of (i := 73) (by decide +kernel) (by decide +kernel), TW_of (i := 1171) (by decide +kernel) (by decide +kernel), ⟨by decide +kernel, by decide +kernel⟩, by decide +kernel, by decide⟩
def m_L_order : MD := (yL_order, cL_order, 7, some .int)
theorem lk_LW_177 : LkSW "TeaHouseLaw" 177 m_L_order [(0, 14, 17, 13), (0, 14, 21, 15)] 6 := ⟨TW_of (i := 1178) (by decide +kernel) (by decide +kernel), TW_of (i := 1179) (by decide +kernel) (by decide +kernel), TW_of (i := 73) (by decide +kernel) (by decide +kernel), TW_of (i := 1180) (by decide +kernel) (by decide +kernel), ⟨by decide +kernel, by decide +kernel⟩, by decide +kernel, by decide⟩
def m_L_cancel : MD := (yL_cancel, cL_cancel, 4, some .int)
theorem lk_LW_181 : LkSW "TeaHouseLaw" 181 m_L_cancel [(0, 9, 12, 34)] 3 := ⟨TW_of (i := 1187) (by decide +kernel) (by decide +kernel), TW_of (i := 1188) (by decide +kernel) (by decide +kernel), TW_of (i := 73) (by decide +kernel) (by decide +kernel), TW_of (i := 1189) (by decide +kernel) (by decide +kernel), ⟨by decide +kernel, by decide +kernel⟩, by decide +kernel, by decide⟩
def m_L_serveNext : MD := (yL_serveNext, cL_serveNext, 3, some .int)
theorem lk_LW_184 : LkSW "TeaHouseLaw" 184 m_L_serveNext [(0, 8, 11, 15)] 2 := ⟨TW_of (i := 1197) (by decide +kernel) (by decide +kernel), TW_of (i := 1198) (by decide +kernel) (by decide +kernel), TW_of (i := 73) (by decide +kernel) (by decide +kernel), TW_of (i := 1199) (by decide +kernel) (by decide +kernel), ⟨by decide +kernel, by decide +kernel⟩, by decide +kernel, by decide⟩
def m_L_wash : MD := (yL_wash, cL_wash, 4, some .int)
theorem lk_LW_188 : LkSW "TeaHouseLaw" 188 m_L_wash [(0, 9, 12, 13), (0, 9, 15, 15)] 3 := ⟨TW_of (i := 1204) (by decide +kernel) (by decide +kernel), TW_of (i := 1205) (by decide +kernel) (by decide +kernel), TW_of (i := 73) (by decide +kernel) (by decide +kernel), TW_of (i := 1206) (by decide +kernel) (by decide +kernel), ⟨by decide +kernel, by decide +kernel⟩, by decide +kernel, by decide⟩
def m_L_sellSteam : MD := (yL_sellSteam, cL_sellSteam, 4, some .int)
theorem lk_LW_191 : LkSW "TeaHouseLaw" 191 m_L_sellSteam [(0, 9, 12, 13), (0, 9, 15, 15)] 3 := ⟨TW_of (i := 1213) (by decide +kernel) (by decide +kernel), TW_of (i := 1214) (by decide +kernel) (by decide +kernel), TW_of (i := 73) (by decide +kernel) (by decide +kernel), TW_of (i := 1215) (by decide +kernel) (by decide +kernel), ⟨by decide +kernel, by decide +kernel⟩, by decide +kernel, by decide⟩
def m_L_setCupPrice : MD := (yL_setCupPrice, cL_setCupPrice, 4, some .int)
theorem lk_LW_195 : LkSW "TeaHouseLaw" 195 m_L_setCupPrice [(0, 9, 12, 13)] 3 := ⟨TW_of (i := 1222) (by decide +kernel) (by decide +kernel), TW_of (i := 1223) (by decide +kernel) (by decide +kernel), TW_of (i := 73) (by decide +kernel) (by decide +kernel), TW_of (i := 1224) (by decide +kernel) (by decide +kernel), ⟨by decide +kernel, by decide +kernel⟩, by decide +kernel, by decide⟩
def m_L_setSteamPrice : MD := (yL_setSteamPrice, cL_setSteamPrice, 4, some .int)
theorem lk_LW_198 : LkSW "TeaHouseLaw" 198 m_L_setSteamPrice [(0, 9, 12, 13)] 3 := ⟨TW_of (i := 1231) (by decide +kernel) (by decide +kernel), TW_of (i := 1232) (by decide +kernel) (by decide +kernel), TW_of (i := 73) (by decide +kernel) (by decide +kernel), TW_of (i := 1233) (by decide +kernel) (by decide +kernel), ⟨by decide +kernel, by decide +kernel⟩, by decide +kernel, by decide⟩
def m_L_pass : MD := (yL_pass, cL_pass, 4, some .int)
theorem lk_LW_206 : LkSW "TeaHouseLaw" 206 m_L_pass [(0, 9, 12, 13)] 3 := ⟨TW_of (i := 1240) (by decide +kernel) (by decide +kernel), TW_of (i := 1241) (by decide +kernel) (by decide +kernel), TW_of (i := 73) (by decide +kernel) (by decide +kernel), TW_of (i := 1242) (by decide +kernel) (by decide +kernel), ⟨by decide +kernel, by decide +kernel⟩, by decide +kernel, by decide⟩
def m_L_closeNight : MD := (yL_closeNight, cL_closeNight, 3, some .int)
theorem lk_LW_209 : LkSW "TeaHouseLaw" 209 m_L_closeNight [(0, 8, 11, 15)] 2 := ⟨TW_of (i := 1249) (by decide +kernel) (by decide +kernel), TW_of (i := 1250) (by decide +kernel) (by decide +kernel), TW_of (i := 73) (by decide +kernel) (by decide +kernel), TW_of (i := 1251) (by decide +kernel) (by decide +kernel), ⟨by decide +kernel, by decide +kernel⟩, by decide +kernel, by decide⟩
def m_L_capacity : MD := (yL_capacity, cL_capacity, 4, some .int)
theorem lk_LW_217 : LkSW "TeaHouseLaw" 217 m_L_capacity [(0, 9, 12, 21)] 3 := ⟨TW_of (i := 1258) (by decide +kernel) (by decide +kernel), TW_of (i := 1259) (by decide +kernel) (by decide +kernel), TW_of (i := 73) (by decide +kernel) (by decide +kernel), TW_of (i := 1260) (by decide +kernel) (by decide +kernel), ⟨by decide +kernel, by decide +kernel⟩, by decide +kernel, by decide⟩
def m_L_volume : MD := (yL_volume, cL_volume, 4, some .int)
theorem lk_LW_220 : LkSW "TeaHouseLaw" 220 m_L_volume [(0, 9, 12, 21)] 3 := ⟨TW_of (i := 1270) (by decide +kernel) (by decide +kernel), TW_of (i := 1271) (by decide +kernel) (by decide +kernel), TW_of (i := 73) (by decide +kernel) (by decide +kernel), TW_of (i := 1272) (by decide +kernel) (by decide +kernel), ⟨by decide +kernel, by decide +kernel⟩, by decide +kernel, by decide⟩
def m_L_temperature : MD := (yL_temperature, cL_temperature, 4, some .int)
theorem lk_LW_223 : LkSW "TeaHouseLaw" 223 m_L_temperature [(0, 9, 12, 21)] 3 := ⟨TW_of (i := 1277) (by decide +kernel) (by decide +kernel), TW_of (i := 1278) (by decide +kernel) (by decide +kernel), TW_of (i := 73) (by decide +kernel) (by decide +kernel), TW_of (i := 1279) (by decide +kernel) (by decide +kernel), ⟨by decide +kernel, by decide +kernel⟩, by decide +kernel, by decide⟩
def m_L_temperatureBits : MD := (yL_temperatureBits, cL_temperatureBits, 4, some .int)
theorem lk_LW_226 : LkSW "TeaHouseLaw" 226 m_L_temperatureBits [(0, 9, 12, 21)] 3 := ⟨TW_of (i := 1284) (by decide +kernel) (by decide +kernel), TW_of (i := 1285) (by decide +kernel) (by decide +kernel), TW_of (i := 73) (by decide +kernel) (by decide +kernel), TW_of (i := 1286) (by decide +kernel) (by decide +kernel), ⟨by decide +kernel, by decide +kernel⟩, by decide +kernel, by decide⟩
def m_L_burner : MD := (yL_burner, cL_burner, 4, some .int)
theorem lk_LW_229 : LkSW "TeaHouseLaw" 229 m_L_burner [(0, 9, 12, 21)] 3 := ⟨TW_of (i := 1291) (by decide +kernel) (by decide +kernel), TW_of (i := 1292) (by decide +kernel) (by decide +kernel), TW_of (i := 73) (by decide +kernel) (by decide +kernel), TW_of (i := 1293) (by decide +kernel) (by decide +kernel), ⟨by decide +kernel, by decide +kernel⟩, by decide +kernel, by decide⟩
def m_L_isBoiling : MD := (yL_isBoiling, cL_isBoiling, 4, some .int)
theorem lk_LW_232 : LkSW "TeaHouseLaw" 232 m_L_isBoiling [(0, 16, 19, 21)] 3 := ⟨TW_of (i := 1298) (by decide +kernel) (by decide +kernel), TW_of (i := 1299) (by decide +kernel) (by decide +kernel), TW_of (i := 73) (by decide +kernel) (by decide +kernel), TW_of (i := 1300) (by decide +kernel) (by decide +kernel), ⟨by decide +kernel, by decide +kernel⟩, by decide +kernel, by decide⟩
def m_L_minutesUntilBoiling : MD := (yL_minutesUntilBoiling, cL_minutesUntilBoiling, 4, some .int)
theorem lk_LW_235 : LkSW "TeaHouseLaw" 235 m_L_minutesUntilBoiling [(0, 9, 12, 21), (0, 9, 15, 34)] 3 := ⟨TW_of (i := 1305) (by decide +kernel) (by decide +kernel), TW_of (i := 1306) (by decide +kernel) (by decide +kernel), TW_of (i := 73) (by decide +kernel) (by decide +kernel), TW_of (i := 1307) (by decide +kernel) (by decide +kernel), ⟨by decide +kernel, by decide +kernel⟩, by decide +kernel, by decide⟩
def m_L_minutesUntilBoilingByMinutes : MD := (yL_minutesUntilBoilingByMinutes, cL_minutesUntilBoilingByMinutes, 4, some .int)
theorem lk_LW_238 : LkSW "TeaHouseLaw" 238 m_L_minutesUntilBoilingByMinutes [(0, 9, 12, 21), (0, 9, 15, 34)] 3 := ⟨TW_of (i := 1316) (by decide +kernel) (by decide +kernel), TW_of (i := 1317) (by decide +kernel) (by decide +kernel), TW_of (i := 73) (by decide +kernel) (by decide +kernel), TW_of (i := 1318) (by decide +kernel) (by decide +kernel), ⟨by decide +kernel, by decide +kernel⟩, by decide +kernel, by decide⟩
def m_L_kettleByTemperature : MD := (yL_kettleByTemperature, cL_kettleByTemperature, 4, some .int)
theorem lk_LW_241 : LkSW "TeaHouseLaw" 241 m_L_kettleByTemperature [(0, 9, 12, 34)] 3 := ⟨TW_of (i := 1323) (by decide +kernel) (by decide +kernel), TW_of (i := 1324) (by decide +kernel) (by decide +kernel), TW_of (i := 73) (by decide +kernel) (by decide +kernel), TW_of (i := 1325) (by decide +kernel) (by decide +kernel), ⟨by decide +kernel, by decide +kernel⟩, by decide +kernel, by decide⟩
def m_L_orderAt : MD := (yL_orderAt, cL_orderAt, 4, some .int)
theorem lk_LW_248 : LkSW "TeaHouseLaw" 248 m_L_orderAt [(0, 9, 12, 34)] 3 := ⟨TW_of (i := 1331) (by decide +kernel) (by decide +kernel), TW_of (i := 1332) (by decide +kernel) (by decide +kernel), TW_of (i := 73) (by decide +kernel) (by decide +kernel), TW_of (i := 1333) (by decide +kernel) (by decide +kernel), ⟨by decide +kernel, by decide +kernel⟩, by decide +kernel, by decide⟩
def m_L_positionOf : MD := (yL_positionOf, cL_positionOf, 4, some .int)
theorem lk_LW_251 : LkSW "TeaHouseLaw" 251 m_L_positionOf [(0, 9, 12, 34)] 3 := ⟨TW_of (i := 1339) (by decide +kernel) (by decide +kernel), TW_of (i := 1340) (by decide +kernel) (by decide +kernel), TW_of (i := 73) (by decide +kernel) (by decide +kernel), TW_of (i := 1341) (by decide +kernel) (by decide +kernel), ⟨by decide +kernel, by decide +kernel⟩, by decide +kernel, by decide⟩
def m_L_cupsOf : MD := (yL_cupsOf, cL_cupsOf, 4, some .int)
theorem lk_LW_254 : LkSW "TeaHouseLaw" 254 m_L_cupsOf [(0, 9, 12, 34)] 3 := ⟨TW_of (i := 1347) (by decide +kernel) (by decide +kernel), TW_of (i := 1348) (by decide +kernel) (by decide +kernel), TW_of (i := 73) (by decide +kernel) (by decide +kernel), TW_of (i := 1349) (by decide +kernel) (by decide +kernel), ⟨by decide +kernel, by decide +kernel⟩, by decide +kernel, by decide⟩
def m_L_priceOf : MD := (yL_priceOf, cL_priceOf, 4, some .int)
theorem lk_LW_257 : LkSW "TeaHouseLaw" 257 m_L_priceOf [(0, 9, 12, 34)] 3 := ⟨TW_of (i := 1354) (by decide +kernel) (by decide +kernel), TW_of (i := 1355) (by decide +kernel) (by decide +kernel), TW_of (i := 73) (by decide +kernel) (by decide +kernel), TW_of (i := 1356) (by decide +kernel) (by decide +kernel), ⟨by decide +kernel, by decide +kernel⟩, by decide +kernel, by decide⟩
def m_L_kettleFor : MD := (yL_kettleFor, cL_kettleFor, 4, some .int)
theorem lk_LW_260 : LkSW "TeaHouseLaw" 260 m_L_kettleFor [(0, 9, 12, 34)] 3 := ⟨TW_of (i := 1361) (by decide +kernel) (by decide +kernel), TW_of (i := 1362) (by decide +kernel) (by decide +kernel), TW_of (i := 73) (by decide +kernel) (by decide +kernel), TW_of (i := 1363) (by decide +kernel) (by decide +kernel), ⟨by decide +kernel, by decide +kernel⟩, by decide +kernel, by decide⟩
def m_L_minutesUntilSuitable : MD := (yL_minutesUntilSuitable, cL_minutesUntilSuitable, 4, some .int)
theorem lk_LW_263 : LkSW "TeaHouseLaw" 263 m_L_minutesUntilSuitable [(0, 9, 12, 34)] 3 := ⟨TW_of (i := 1369) (by decide +kernel) (by decide +kernel), TW_of (i := 1370) (by decide +kernel) (by decide +kernel), TW_of (i := 73) (by decide +kernel) (by decide +kernel), TW_of (i := 1371) (by decide +kernel) (by decide +kernel), ⟨by decide +kernel, by decide +kernel⟩, by decide +kernel, by decide⟩
def m_L_nightIncome : MD := (yL_nightIncome, cL_nightIncome, 4, some .int)
theorem lk_LW_307 : LkSW "TeaHouseLaw" 307 m_L_nightIncome [(0, 9, 12, 21)] 3 := ⟨TW_of (i := 1380) (by decide +kernel) (by decide +kernel), TW_of (i := 1381) (by decide +kernel) (by decide +kernel), TW_of (i := 73) (by decide +kernel) (by decide +kernel), TW_of (i := 1382) (by decide +kernel) (by decide +kernel), ⟨by decide +kernel, by decide +kernel⟩, by decide +kernel, by decide⟩
def m_L_nightByIncome : MD := (yL_nightByIncome, cL_nightByIncome, 4, some .int)
theorem lk_LW_310 : LkSW "TeaHouseLaw" 310 m_L_nightByIncome [(0, 9, 12, 34)] 3 := ⟨TW_of (i := 1388) (by decide +kernel) (by decide +kernel), TW_of (i := 1389) (by decide +kernel) (by decide +kernel), TW_of (i := 73) (by decide +kernel) (by decide +kernel), TW_of (i := 1390) (by decide +kernel) (by decide +kernel), ⟨by decide +kernel, by decide +kernel⟩, by decide +kernel, by decide⟩
def m_L_greatestIncome : MD := (yL_greatestIncome, cL_greatestIncome, 4, some .int)
theorem lk_LW_313 : LkSW "TeaHouseLaw" 313 m_L_greatestIncome [(0, 9, 12, 13), (0, 9, 15, 34)] 3 := ⟨TW_of (i := 1403) (by decide +kernel) (by decide +kernel), TW_of (i := 1404) (by decide +kernel) (by decide +kernel), TW_of (i := 73) (by decide +kernel) (by decide +kernel), TW_of (i := 1405) (by decide +kernel) (by decide +kernel), ⟨by decide +kernel, by decide +kernel⟩, by decide +kernel, by decide⟩
def m_L_greatestIncomeBySums : MD := (yL_greatestIncomeBySums, cL_greatestIncomeBySums, 4, some .int)
theorem lk_LW_316 : LkSW "TeaHouseLaw" 316 m_L_greatestIncomeBySums [(0, 9, 12, 13), (0, 9, 15, 34)] 3 := ⟨TW_of (i := 1418) (by decide +kernel) (by decide +kernel), TW_of (i := 1419) (by decide +kernel) (by decide +kernel), TW_of (i := 73) (by decide +kernel) (by decide +kernel), TW_of (i := 1420) (by decide +kernel) (by decide +kernel), ⟨by decide +kernel, by decide +kernel⟩, by decide +kernel, by decide⟩
def m_L_meanTemperature : MD := (yL_meanTemperature, cL_meanTemperature, 3, some .int)
theorem lk_LW_339 : LkSW "TeaHouseLaw" 339 m_L_meanTemperature [(0, 7, 10, 122)] 2 := ⟨TW_of (i := 1426) (by decide +kernel) (by decide +kernel), TW_of (i := 1427) (by decide +kernel) (by decide +kernel), TW_of (i := 73) (by decide +kernel) (by decide +kernel), TW_of (i := 1428) (by decide +kernel) (by decide +kernel), ⟨by decide +kernel, by decide +kernel⟩, by decide +kernel, by decide⟩
def m_L_lostShare : MD := (yL_lostShare, cL_lostShare, 3, some .int)
theorem lk_LW_342 : LkSW "TeaHouseLaw" 342 m_L_lostShare [(0, 8, 11, 122)] 2 := ⟨TW_of (i := 1450) (by decide +kernel) (by decide +kernel), TW_of (i := 1451) (by decide +kernel) (by decide +kernel), TW_of (i := 73) (by decide +kernel) (by decide +kernel), TW_of (i := 1452) (by decide +kernel) (by decide +kernel), ⟨by decide +kernel, by decide +kernel⟩, by decide +kernel, by decide⟩
def m_L_formatKettle : MD := (yL_formatKettle, cL_formatKettle, 4, some .int)
theorem lk_LW_349 : LkSW "TeaHouseLaw" 349 m_L_formatKettle [(0, 9, 12, 21)] 3 := ⟨TW_of (i := 1458) (by decide +kernel) (by decide +kernel), TW_of (i := 1459) (by decide +kernel) (by decide +kernel), TW_of (i := 73) (by decide +kernel) (by decide +kernel), TW_of (i := 1460) (by decide +kernel) (by decide +kernel), ⟨by decide +kernel, by decide +kernel⟩, by decide +kernel, by decide⟩
def m_L_formatOrder : MD := (yL_formatOrder, cL_formatOrder, 4, some .int)
theorem lk_LW_352 : LkSW "TeaHouseLaw" 352 m_L_formatOrder [(0, 9, 12, 34)] 3 := ⟨TW_of (i := 1473) (by decide +kernel) (by decide +kernel), TW_of (i := 1474) (by decide +kernel) (by decide +kernel), TW_of (i := 73) (by decide +kernel) (by decide +kernel), TW_of (i := 1475) (by decide +kernel) (by decide +kernel), ⟨by decide +kernel, by decide +kernel⟩, by decide +kernel, by decide⟩
def m_L_lineChar : MD := (yL_lineChar, cL_lineChar, 4, some .int)
theorem lk_LW_359 : LkSW "TeaHouseLaw" 359 m_L_lineChar [(0, 9, 12, 21)] 3 := ⟨TW_of (i := 1489) (by decide +kernel) (by decide +kernel), TW_of (i := 1490) (by decide +kernel) (by decide +kernel), TW_of (i := 73) (by decide +kernel) (by decide +kernel), TW_of (i := 1491) (by decide +kernel) (by decide +kernel), ⟨by decide +kernel, by decide +kernel⟩, by decide +kernel, by decide⟩
def m_L_append : MD := (yL_append, cL_append, 4, some .int)
theorem lk_LW_362 : LkSW "TeaHouseLaw" 362 m_L_append [(0, 9, 12, 13), (0, 9, 15, 15)] 3 := ⟨TW_of (i := 1507) (by decide +kernel) (by decide +kernel), TW_of (i := 1508) (by decide +kernel) (by decide +kernel), TW_of (i := 73) (by decide +kernel) (by decide +kernel), TW_of (i := 1509) (by decide +kernel) (by decide +kernel), ⟨by decide +kernel, by decide +kernel⟩, by decide +kernel, by decide⟩
def m_L_run : MD := (yL_run, cL_run, 3, some .int)
theorem lk_LW_366 : LkSW "TeaHouseLaw" 366 m_L_run [(0, 8, 11, 13), (0, 8, 14, 15)] 2 := ⟨TW_of (i := 1520) (by decide +kernel) (by decide +kernel), TW_of (i := 1521) (by decide +kernel) (by decide +kernel), TW_of (i := 73) (by decide +kernel) (by decide +kernel), TW_of (i := 1522) (by decide +kernel) (by decide +kernel), ⟨by decide +kernel, by decide +kernel⟩, by decide +kernel, by decide⟩
def m_L_errorPosition : MD := (yL_errorPosition, cL_errorPosition, 3, some .int)
theorem lk_LW_369 : LkSW "TeaHouseLaw" 369 m_L_errorPosition [(0, 8, 11, 34)] 2 := ⟨TW_of (i := 1581) (by decide +kernel) (by decide +kernel), TW_of (i := 1582) (by decide +kernel) (by decide +kernel), TW_of (i := 73) (by decide +kernel) (by decide +kernel), TW_of (i := 1583) (by decide +kernel) (by decide +kernel), ⟨by decide +kernel, by decide +kernel⟩, by decide +kernel, by decide⟩
def m_L_failedCommand : MD := (yL_failedCommand, cL_failedCommand, 3, some .int)
theorem lk_LW_372 : LkSW "TeaHouseLaw" 372 m_L_failedCommand [(0, 8, 11, 34)] 2 := ⟨TW_of (i := 1588) (by decide +kernel) (by decide +kernel), TW_of (i := 1589) (by decide +kernel) (by decide +kernel), TW_of (i := 73) (by decide +kernel) (by decide +kernel), TW_of (i := 1590) (by decide +kernel) (by decide +kernel), ⟨by decide +kernel, by decide +kernel⟩, by decide +kernel, by decide⟩
def m_L_undo : MD := (yL_undo, cL_undo, 3, some .int)
theorem lk_LW_379 : LkSW "TeaHouseLaw" 379 m_L_undo [(0, 8, 11, 15)] 2 := ⟨TW_of (i := 1595) (by decide +kernel) (by decide +kernel), TW_of (i := 1596) (by decide +kernel) (by decide +kernel), TW_of (i := 73) (by decide +kernel) (by decide +kernel), TW_of (i := 1597) (by decide +kernel) (by decide +kernel), ⟨by decide +kernel, by decide +kernel⟩, by decide +kernel, by decide⟩
def m_L_restore : MD := (yL_restore, cL_restore, 3, some .int)
theorem lk_LW_386 : LkSW "TeaHouseLaw" 386 m_L_restore [(0, 8, 11, 15)] 2 := ⟨TW_of (i := 1603) (by decide +kernel) (by decide +kernel), TW_of (i := 1604) (by decide +kernel) (by decide +kernel), TW_of (i := 73) (by decide +kernel) (by decide +kernel), TW_of (i := 1605) (by decide +kernel) (by decide +kernel), ⟨by decide +kernel, by decide +kernel⟩, by decide +kernel, by decide⟩
