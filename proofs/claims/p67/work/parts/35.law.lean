/-! ===== the law's methods: their handlers, the script ===== -/
def exL : List String := ["java/lang/IndexOutOfBoundsException", "java/lang/IllegalArgumentException", "java/lang/IllegalStateException", "java/util/NoSuchElementException"]
/-- the class that an entry of the law's pool names -/
def nmL (ct : Nat) : String := if ct = 19 then "java/lang/IllegalArgumentException" else if ct = 21 then "java/lang/IllegalStateException" else if ct = 27 then "java/lang/IndexOutOfBoundsException" else "java/util/NoSuchElementException"
def ctL : List Nat := [19, 21, 27, 43]
theorem cl_L_19 : Cond.classLink "TeaHouseLaw" 19 "java/lang/IllegalArgumentException" ∈ TW := TW_of (i := 1136) (by decide +kernel) (by decide +kernel)
theorem ca_19 : Cond.castable "java/lang/IllegalArgumentException" "java/lang/IllegalArgumentException" ∈ TW := TW_of (i := 620) (by decide +kernel) (by decide +kernel)
theorem cl_L_21 : Cond.classLink "TeaHouseLaw" 21 "java/lang/IllegalStateException" ∈ TW := TW_of (i := 1154) (by decide +kernel) (by decide +kernel)
theorem ca_21 : Cond.castable "java/lang/IllegalStateException" "java/lang/IllegalStateException" ∈ TW := TW_of (i := 1174) (by decide +kernel) (by decide +kernel)
theorem cl_L_27 : Cond.classLink "TeaHouseLaw" 27 "java/lang/IndexOutOfBoundsException" ∈ TW := TW_of (i := 1090) (by decide +kernel) (by decide +kernel)
theorem ca_27 : Cond.castable "java/lang/IndexOutOfBoundsException" "java/lang/IndexOutOfBoundsException" ∈ TW := TW_of (i := 344) (by decide +kernel) (by decide +kernel)
theorem cl_L_43 : Cond.classLink "TeaHouseLaw" 43 "java/util/NoSuchElementException" ∈ TW := TW_of (i := 1093) (by decide +kernel) (by decide +kernel)
theorem ca_43 : Cond.castable "java/util/NoSuchElementException" "java/util/NoSuchElementException" ∈ TW := TW_of (i := 465) (by decide +kernel) (by decide +kernel)
theorem cl_all : ∀ ct ∈ ctL, Cond.classLink "TeaHouseLaw" ct (nmL ct) ∈ TW := by
  intro ct h
  simp only [ctL, List.mem_cons, List.not_mem_nil, or_false] at h
  rcases h with rfl | rfl | rfl | rfl
  · exact cl_L_19
  · exact cl_L_21
  · exact cl_L_27
  · exact cl_L_43
/-- none of the four is another -/
def NC (U : State) : Prop := ∀ a ∈ exL, ∀ b ∈ exL, a ≠ b → va_Nc a b U
theorem NC.moved {u U : State} (hvm : u.vm.Alike U.vm) (h : NC u) : NC U := fun a ha b hb e => va_Nc.moved hvm (h a ha b hb e)
def NCX (X : XT) : Prop := match X with
  | (p, l, e, R, s, m, args, below, meth, c, Q) => NC s
def TBX (X : XT) (hh : List (Nat × Nat × Nat × Nat)) : Prop := match X with
  | (p, l, e, R, s, m, args, below, meth, c, Q) => c.exceptionTable.toList = tableOf hh
/-- the script, as it lies in the memory -/
def ScU (D : DT) (nn : Nat) (xs : Nat → Int32) (U : State) : Prop := nn < 100000 ∧ ta D 1000300 < D.1 ∧ va_X (ta D 1000300) nn xs U D.2.1
theorem ScU.moved {D : DT} {nn : Nat} {xs : Nat → Int32} {u U : State} (hvm : u.vm.Alike U.vm) (h : ScU D nn xs u) : ScU D nn xs U := ⟨h.1, h.2.1, va_X.moved hvm h.2.2⟩
def ScrX (X : XT) (D : DT) (nn : Nat) (xs : Nat → Int32) : Prop := match X with
  | (p, l, e, R, s, m, args, below, meth, c, Q) => ScU D nn xs s
def PcML (D : DT) (nn : Nat) (xs : Nat → Int32) (av : List Value) (G : GT) (I : IT) (L : LT) : Array Value → State → Prop := va_Pc (av.map (tv D)) (fun U => Rel D G I L U.heap ∧ Facts D U ∧ NC U ∧ ScU D nn xs U)
theorem PcML.blind {D : DT} {nn : Nat} {xs : Nat → Int32} {av : List Value} {G : GT} {I : IT} {L : LT} : FrameBlind (PcML D nn xs av G I L) := fun a U g mk h => ⟨h.1, h.2.1, Facts.calling h.2.2.1, h.2.2.2.1.moved (Vm.Alike.refl U.vm), h.2.2.2.2.moved (Vm.Alike.refl U.vm)⟩
def ConL (l : Launch) (D : DT) (nn : Nat) (xs : Nat → Int32) (M : MD) (d : Nat) (av : List Value) (mc ms : Nat) (I : IT) (L : LT) (P : Res → IT → LT → Prop) : Prop := ∀ (G : GT) (I' : IT), LAYB G I I' → (mc = 0 ∨ G.1 + mc < 1000000) →
  vx_Met l M.1 (Cond.code M.1 M.2.1 M.2.2.1 M.2.2.2 :: TW) (rmD d mc ms) (PcML D nn xs av G I' L) (QcP D (P2 P)) (XCP D (P2 P)) mc ms (Ad D)
def ConLW (l : Launch) (D : DT) (nn : Nat) (xs : Nat → Int32) (M : MD) (hh : List (Nat × Nat × Nat × Nat)) (d : Nat) (av : List Value) (mc ms : Nat) (I : IT) (L : LT) (P : Res → IT → LT → Prop) : Prop := ∀ (G : GT) (I' : IT), LAYB G I I' → (mc = 0 ∨ G.1 + mc < 1000000) →
  vx_Met l M.1 (Cond.codeWith M.1 M.2.1 M.2.2.1 M.2.2.2 hh :: TW) (rmD d mc ms) (PcML D nn xs av G I' L) (QcP D (P2 P)) (XCP D (P2 P)) mc ms (Ad D)
def RTL (X : XT) (l0 : Launch) (D : DT) (ret : Option FieldType) (P : Res → GT → IT → LT → Prop) (d mc ms : Nat) : Prop := Room2 X l0 D d mc ms ∧ match X with
  | (p, l, e, R, s, m, args, below, meth, c, Q) => Q = vx_MQ below (QcP D P) (XCP D P) args s mc ms (Ad D) ∧ meth.sig.returnType = ret
theorem ConL.of {l : Launch} {D : DT} {nn : Nat} {xs : Nat → Int32} {M : MD} {d mc ms : Nat} {av : List Value} {I : IT} {L : LT} {P : Res → IT → LT → Prop} (hy : plainName M.1.cls = true) (hc : ∀ v ∈ av, v.category = 1) (hn : av.length ≤ M.2.2.1)
    (body : ∀ X : XT, OK X D M.2.1 M.1.cls M.2.2.1 → RT X l D M.2.2.2 (P2 P) d mc ms → NCX X → ScrX X D nn xs → J2 X D M.2.2.1 0 0 I L 0 (ent av M.2.2.1) []) : ConL l D nn xs M d av mc ms I L P := by
  intro G I' hlb hb
  refine vx_ofW (cc := M.2.1) (maxL := M.2.2.1) (ret := M.2.2.2) hy rfl ?_
  intro p e s m args below meth c s₁ B hml htab hv
  obtain ⟨rfl, hR, hF, hN, hS⟩ := hv
  have hts := atoms_spec (ws := Cond.code M.1 M.2.1 M.2.2.1 M.2.2.2 :: TW) B.pre
  have hown : s.vm.findClass M.1.cls = some m.cls := findClass_of_methodNamed B.named
  have hl := lv_entry (av.map (tv D)) (n := M.2.2.1) (by rw [lg_sl_len av hc]; exact hn)
  rw [lg_entry_eq]
  generalize (lg_sl (av.map (tv D)) ++ List.replicate (M.2.2.1 - (lg_sl (av.map (tv D))).length) Slot.unset).toArray = ls at hl ⊢
  have hX : OK (p, l, e, (headSpec (Cond.code M.1 M.2.1 M.2.2.1 M.2.2.2 :: TW) (rmD d mc ms)).room, s, m, (av.map (tv D)).toArray, below, meth, c, vx_MQ below (QcP D (P2 P)) (XCP D (P2 P)) (av.map (tv D)).toArray s mc ms (Ad D)) D M.2.1 M.1.cls M.2.2.1 :=
    ⟨B.exec, B.bytes, hml, hown, fun w hw => hts w (List.mem_cons_of_mem _ hw), hF, B.notSynchronized, by rw [hR.1]; exact Nat.le_add_right _ _, hR.2.2.1⟩
  have h := body _ hX ⟨rfl, B.returns, ⟨rfl, Nat.le_refl _, Nat.le_refl _, Nat.le_refl _, Nat.le_refl _, by
    show s.heap.size + mc < D.1 + 1000000
    have h1 := hR.1
    have h2 := hR.2.1
    rcases hb with rfl | hb <;> omega⟩, htab⟩ hN hS
  exact h G I' hlb s.heap [] ls hR (Nat.le_refl _) (fun q h => by cases h) ⟨by simp [ent]; omega, lv_mono hl (lprs_pad av 0 _ hc)⟩
theorem ConLW.of {l : Launch} {D : DT} {nn : Nat} {xs : Nat → Int32} {M : MD} {hh : List (Nat × Nat × Nat × Nat)} {d mc ms : Nat} {av : List Value} {I : IT} {L : LT} {P : Res → IT → LT → Prop} (hy : plainName M.1.cls = true) (hc : ∀ v ∈ av, v.category = 1) (hn : av.length ≤ M.2.2.1)
    (body : ∀ X : XT, OK X D M.2.1 M.1.cls M.2.2.1 → RTL X l D M.2.2.2 (P2 P) d mc ms → NCX X → ScrX X D nn xs → TBX X hh → J2 X D M.2.2.1 0 0 I L 0 (ent av M.2.2.1) []) : ConLW l D nn xs M hh d av mc ms I L P := by
  intro G I' hlb hb
  refine vx_ofWH (cc := M.2.1) (maxL := M.2.2.1) (ret := M.2.2.2) (hh := hh) hy rfl ?_
  intro p e s m args below meth c s₁ B hml hv
  obtain ⟨rfl, hR, hF, hN, hS⟩ := hv
  have hts := atoms_spec (ws := Cond.codeWith M.1 M.2.1 M.2.2.1 M.2.2.2 hh :: TW) B.pre
  have hown : s.vm.findClass M.1.cls = some m.cls := findClass_of_methodNamed B.named
  have hl := lv_entry (av.map (tv D)) (n := M.2.2.1) (by rw [lg_sl_len av hc]; exact hn)
  rw [lg_entry_eq]
  generalize (lg_sl (av.map (tv D)) ++ List.replicate (M.2.2.1 - (lg_sl (av.map (tv D))).length) Slot.unset).toArray = ls at hl ⊢
  have hX : OK (p, l, e, (headSpec (Cond.codeWith M.1 M.2.1 M.2.2.1 M.2.2.2 hh :: TW) (rmD d mc ms)).room, s, m, (av.map (tv D)).toArray, below, meth, c, vx_MQ below (QcP D (P2 P)) (XCP D (P2 P)) (av.map (tv D)).toArray s mc ms (Ad D)) D M.2.1 M.1.cls M.2.2.1 :=
    ⟨B.exec, B.bytes, hml, hown, fun w hw => hts w (List.mem_cons_of_mem _ hw), hF, B.notSynchronized, by rw [hR.1]; exact Nat.le_add_right _ _, hR.2.2.1⟩
  have h := body _ hX ⟨⟨rfl, Nat.le_refl _, Nat.le_refl _, Nat.le_refl _, Nat.le_refl _, by
    show s.heap.size + mc < D.1 + 1000000
    have h1 := hR.1
    have h2 := hR.2.1
    rcases hb with rfl | hb <;> omega⟩, rfl, B.returns⟩ hN hS (vx_table (x := M.1) B (hts _ List.mem_cons_self))
  exact h G I' hlb s.heap [] ls hR (Nat.le_refl _) (fun q h => by cases h) ⟨by simp [ent]; omega, lv_mono hl (lprs_pad av 0 _ hc)⟩
def WX (X : XT) (D : DT) (nL c w : Nat) (H : Heap) (locs : List Loc) (lsA : Array Slot) (ls : List Value) (hp q : Nat) : Prop := match X with
  | (p, l, e, R, s, m, args, below, meth, c0, Q) => s.heap.size ≤ H.size → (∀ q ∈ locs, D.1 ≤ q.base) → lsR D nL lsA ls → W p l e R s m args below meth c0 H locs c w Q (F0 m hp lsA [.ref q])
section LawQ
variable {X : XT} {D : DT} {cc : ByteArray} {own : String} {nL c w : Nat} {I : IT} {L : LT} {pc : Nat} {ls st stk : List Value} {l0 : Launch} {d mc ms : Nat}
theorem q_iretL (hX : OK X D cc own nL) {ty : FieldType} {v : Int32} {K : Int32 → IT → Prop} (hT : RTL X l0 D (some ty) (P2 (Pi L K)) d mc ms) (dd : decode cc pc = .ok (.ireturn, 1)) (h : K v I) (h1 : c ≤ mc) (h2 : w ≤ ms) (hnr : narrow ty (.int v) = .int v := by rfl) : J2 X D nL c w I L pc ls [.int v] := by
  obtain ⟨p, l, e, R, s, m, args, below, meth, c0, Q⟩ := X
  intro G I' hlb H locs lsA hR hz hl hL
  obtain ⟨-, hQ, hr⟩ := hT
  subst hQ
  have hlocks := hX.2.2.2.2.2.2.1
  exact W.widen (k := mc) (n := ms) h1 h2 (vx_ret (W.zret hX.1 hX.2.1 hr hnr (fun t ht hW => ⟨some (.int v), G, I', L, rfl, ⟨I, hlb, rfl, v, rfl, h⟩, by rw [ht]; exact hR, by rw [ht]; exact hz⟩) hl dd hlocks))
theorem q_fretL (hX : OK X D cc own nL) {v : UInt32} {K : UInt32 → IT → Prop} (hT : RTL X l0 D (some .float) (P2 (Pf L K)) d mc ms) (dd : decode cc pc = .ok (.freturn, 1)) (h : K v I) (h1 : c ≤ mc) (h2 : w ≤ ms) : J2 X D nL c w I L pc ls [.float v] := by
  obtain ⟨p, l, e, R, s, m, args, below, meth, c0, Q⟩ := X
  intro G I' hlb H locs lsA hR hz hl hL
  obtain ⟨-, hQ, hr⟩ := hT
  subst hQ
  have hlocks := hX.2.2.2.2.2.2.1
  exact W.widen (k := mc) (n := ms) h1 h2 (vx_ret (W.fret hX.1 hX.2.1 hr (fun t ht hW => ⟨some (.float v), G, I', L, rfl, ⟨I, hlb, rfl, v, rfl, h⟩, by rw [ht]; exact hR, by rw [ht]; exact hz⟩) hl dd hlocks))
theorem q_cs {E k : String} (a : E = k → JT2 X D nL c w I L pc ls E) (b : ¬ E = k → JT2 X D nL c w I L pc ls E) : JT2 X D nL c w I L pc ls E := by
  by_cases h : E = k
  · exact a h
  · exact b h
/-- the handlers ahead of one do not take E -/
def passB (E : String) (l : List ExceptionTableEntry) : Bool := exL.contains E && l.all (fun z => ctL.contains z.catchType && (nmL z.catchType != E && exL.contains (nmL z.catchType)))
theorem catch_core (hX : OK X D cc "TeaHouseLaw" nL) (hN : NCX X) {hh : List (Nat × Nat × Nat × Nat)} (hB : TBX X hh) (i : Nat) {x : ExceptionTableEntry} {E : String} {hp ct : Nat} (hi : (tableOf hh)[i]? = some x) (h2 : x.handlerPc = hp) (h3 : x.catchType = ct) (hx : (covers x pc && decide (ct ≠ 0)) = true) (hlink : Cond.classLink "TeaHouseLaw" ct E ∈ TW) (hcast : Cond.castable E E ∈ TW) (hpass : passB E ((tableOf hh).take i) = true)
    (k : ∀ (G : GT) (I' : IT) (H : Heap) (locs : List Loc) (lsA : Array Slot) (q : Nat), LAYB G I I' → Rel D G I' L H → WX X D nL c w H locs lsA ls hp q) : JT2 X D nL c w I L pc ls E := by
  obtain ⟨p, l, e, R, s, m, args, below, meth, c0, Q⟩ := X
  intro G I' hlb H locs lsA q ce rest hR hz hl hL hq hv hcl
  obtain ⟨hxx, hby, -, hown, hts, hF, -, hsz, h0⟩ := hX
  simp only [Bool.and_eq_true, decide_eq_true_eq] at hx
  simp only [passB, Bool.and_eq_true] at hpass
  subst h2
  subst h3
  have hsp : c0.exceptionTable.toList = (tableOf hh).take i ++ x :: (tableOf hh).drop (i + 1) := by
    rw [show c0.exceptionTable.toList = tableOf hh from hB]
    obtain ⟨hlt, he⟩ := List.getElem?_eq_some_iff.mp hi
    rw [← he, List.getElem_cons_drop, List.take_append_drop]
  have hE := List.contains_iff_mem.mp hpass.1
  refine vx_catch hown _ x _ hsp (fun z hz' => Or.inr ?_) (by simpa using hx.1) hx.2 (hts _ hlink) (hts _ hcast) hq hv hcl (k G I' H locs lsA q hlb hR hz hl hL)
  have hz2 := List.all_eq_true.mp hpass.2 z hz'
  simp only [Bool.and_eq_true, bne_iff_ne] at hz2
  have hm := List.contains_iff_mem.mp hz2.1
  refine ⟨?_, nmL z.catchType, hts _ (cl_all _ hm), hN _ hE _ (List.contains_iff_mem.mp hz2.2.2) (Ne.symm hz2.2.1)⟩
  intro e0
  rw [e0] at hm
  simp [ctL] at hm
theorem lsR_kill {lsA lsA' : Array Slot} {i q : Nat} (hL : lsR D nL lsA ls) (h' : lv_has lsA' nL ((i, .ref q) :: (lprs D 0 ls).filter (fun q => !(q.1 == i) && !(q.1 + 1 == i && q.2.category == 2)))) : lsR D nL lsA' (lset1 ls i (.retAddr 0)) := by
  refine ⟨by rw [lset1_len]; exact hL.1, lv_mono h' fun p hp => ?_⟩
  obtain ⟨k, u, h1, h2, rfl⟩ := lprs_of _ _ _ hp
  rcases lset1_get h1 h2 with ⟨rfl, rfl⟩ | ⟨h3, h4, h5⟩
  · exact absurd rfl (h2 0)
  · refine List.mem_cons_of_mem _ (List.mem_filter.mpr ⟨lprs_mem ls 0 k u h4 h2, ?_⟩)
    simp only [Nat.zero_add, tv_cat, Bool.and_eq_true, Bool.not_eq_true', beq_eq_false_iff_ne, ne_eq, Bool.and_eq_false_imp, beq_iff_eq]
    exact ⟨h3, fun e => fun e2 => h5 ⟨e, e2⟩⟩
theorem q_catch (hX : OK X D cc "TeaHouseLaw" nL) (hN : NCX X) {hh : List (Nat × Nat × Nat × Nat)} (hB : TBX X hh) (i : Nat) {x : ExceptionTableEntry} {E : String} {hp ct j : Nat} (hi : (tableOf hh)[i]? = some x) (h2 : x.handlerPc = hp) (h3 : x.catchType = ct) (hx : (covers x pc && decide (ct ≠ 0)) = true) (hlink : Cond.classLink "TeaHouseLaw" ct E ∈ TW) (hcast : Cond.castable E E ∈ TW) (hpass : passB E ((tableOf hh).take i) = true)
    (dd : decode cc hp = .ok (.astore j, 2)) (hj : j < nL) (k : J2 X D nL c w I L (hp + 2) (lset1 ls j (.retAddr 0)) []) : JT2 X D nL c w I L pc ls E := by
  refine catch_core hX hN hB i hi h2 h3 hx hlink hcast hpass ?_
  intro G I' H locs lsA q hlb hR
  obtain ⟨p, l, e, R, s, m, args, below, meth, c0, Q⟩ := X
  intro hz hl hL
  exact lv_astore hX.1 hX.2.1 dd hL.2 hj rfl (fun lsA' h' => k G I' hlb H locs lsA' hR hz hl (lsR_kill hL h'))
theorem q_catchN (hX : OK X D cc "TeaHouseLaw" nL) (hN : NCX X) {hh : List (Nat × Nat × Nat × Nat)} (hB : TBX X hh) (i : Nat) {x : ExceptionTableEntry} {E : String} {hp ct : Nat} {j : Fin 4} (hi : (tableOf hh)[i]? = some x) (h2 : x.handlerPc = hp) (h3 : x.catchType = ct) (hx : (covers x pc && decide (ct ≠ 0)) = true) (hlink : Cond.classLink "TeaHouseLaw" ct E ∈ TW) (hcast : Cond.castable E E ∈ TW) (hpass : passB E ((tableOf hh).take i) = true)
    (dd : decode cc hp = .ok (.astore_n j, 1)) (hj : (j : Nat) < nL) (k : J2 X D nL c w I L (hp + 1) (lset1 ls (j : Nat) (.retAddr 0)) []) : JT2 X D nL c w I L pc ls E := by
  refine catch_core hX hN hB i hi h2 h3 hx hlink hcast hpass ?_
  intro G I' H locs lsA q hlb hR
  obtain ⟨p, l, e, R, s, m, args, below, meth, c0, Q⟩ := X
  intro hz hl hL
  exact lv_astore_n hX.1 hX.2.1 (i := (j : Nat)) dd rfl hL.2 hj rfl (fun lsA' h' => k G I' hlb H locs lsA' hR hz hl (lsR_kill hL h'))
theorem ScU.at {D : DT} {nn : Nat} {xs : Nat → Int32} {s : State} (h : ScU D nn xs s) (h0 : ∀ q, q < D.1 → s.heap[q]? = D.2.1[q]?) : va_X (ta D 1000300) nn xs s s.heap ∧ ta D 1000300 < s.heap.size := by
  have hX := va_X.kept h.2.2 (h0 _ h.2.1)
  refine ⟨hX, ?_⟩
  obtain ⟨scr, h1, -⟩ := hX
  exact (Array.getElem?_eq_some_iff.mp h1).1
theorem q_sld (hX : OK X D cc own nL) {nn : Nat} {xs : Nat → Int32} (hS : ScrX X D nn xs) {i : Int32} (dd : decode cc pc = .ok (.iaload, 1)) (hi : inr i nn) (k : J2 X D nL c w I L (pc + 1) ls (.int (xs (ix i)) :: st)) : J2 X D nL c w I L pc ls (.int i :: .ref 1000300 :: st) := by
  obtain ⟨p, l, e, R, s, m, args, below, meth, c0, Q⟩ := X
  intro G I' hlb H locs lsA hR hz hl hL
  obtain ⟨hx, hby, -, hown, hts, hF, -, hsz, h0⟩ := hX
  have hS : ScU D nn xs s := hS
  obtain ⟨hXb, hbs⟩ := hS.at h0
  show W _ _ _ _ _ _ _ _ _ _ _ _ _ _ _ (F0 m pc lsA (.int i :: .ref (ta D 1000300) :: st.map (tv D)))
  refine va_sld hx hby hXb hbs (A := Ad D) (Nat.not_le.mpr hS.2.1) (Facts.S h0 hR hz hl) ?_ dd (k G I' hlb H locs lsA hR hz hl hL)
  rw [inr_e hi]
  exact vp_in_nI (inr_lt hi) (by have := hS.1; omega)
theorem q_slen (hX : OK X D cc own nL) {nn : Nat} {xs : Nat → Int32} (hS : ScrX X D nn xs) (dd : decode cc pc = .ok (.arraylength, 1)) (k : J2 X D nL c w I L (pc + 1) ls (.int (nI nn) :: st)) : J2 X D nL c w I L pc ls (.ref 1000300 :: st) := by
  obtain ⟨p, l, e, R, s, m, args, below, meth, c0, Q⟩ := X
  intro G I' hlb H locs lsA hR hz hl hL
  obtain ⟨hx, hby, -, hown, hts, hF, -, hsz, h0⟩ := hX
  have hS : ScU D nn xs s := hS
  obtain ⟨hXb, hbs⟩ := hS.at h0
  show W _ _ _ _ _ _ _ _ _ _ _ _ _ _ _ (F0 m pc lsA (.ref (ta D 1000300) :: st.map (tv D)))
  exact va_slen hx hby hXb hbs (A := Ad D) (Nat.not_le.mpr hS.2.1) (Facts.S h0 hR hz hl) dd (k G I' hlb H locs lsA hR hz hl hL)
def EndAt (X : XT) (D : DT) (L : LT) (K : Int32 → IT → Prop) (mc ms : Nat) : Prop := ∀ {pc c w : Nat} {x : Int32} {I : IT} {ls : List Value}, decode cL_law pc = .ok (.ireturn, 1) → c ≤ mc → w ≤ ms → K x I → J2 X D 21 c w I L pc ls [.int x]
def LkSW (own : String) (idx : Nat) (M : MD) (hh : List (Nat × Nat × Nat × Nat)) (n : Nat) : Prop := Cond.methodLink own idx M.1 ∈ TW ∧ Cond.static M.1 ∈ TW ∧ Cond.initialized M.1.cls ∈ TW ∧ Cond.codeWith M.1 M.2.1 M.2.2.1 M.2.2.2 hh ∈ TW ∧ (M.1.cls ≠ "java/lang/invoke/MethodHandle" ∧ M.1.cls ≠ "java/lang/invoke/VarHandle") ∧ (parseMethodDescriptor M.1.desc).map (fun d => d.parameters.length) = some n ∧ M.2.2.1 ≤ 40
theorem q_SL0 (hX : OK X D cc own nL) (hR : Room2 X l0 D d mc ms) (hN : NCX X) {nn : Nat} {xs : Nat → Int32} (hS : ScrX X D nn xs) {M : MD} {idx n : Nat} {As : List Value} {d' mc' ms' : Nat} {P : Res → IT → LT → Prop} (hM : ConL l0 D nn xs M d' As mc' ms' I L P) (lk : LkS own idx M n) (dd : decode cc pc = .ok (.invokestatic idx, 3)) (hn : As.length = n) (hs : stk = As.reverse ++ st) (hcat : (st.map fun v => v.category).sum ≤ 8) (hd : d' + 1 ≤ d) (h1 : c + mc' ≤ mc) (h2 : w + ms' ≤ ms)
    (kret : ∀ v I2 L2, P (.inl v) I2 L2 → J2 X D nL (c + mc') (w + ms') I2 L2 (pc + 3) ls (v.toList ++ st)) (kthr : ∀ E I2 L2, ¬ P (.inr E) I2 L2) : J2 X D nL c w I L pc ls stk := by
  intro G I' hlb
  refine J.bound hR h1 (fun hbd => ?_)
  have hM := hM G I' hlb (Or.inr hbd)
  obtain ⟨p, l, e, R, s, m, args, below, meth, c0, Q⟩ := X
  intro H locs lsA hRl hz hl hL
  subst hs
  obtain ⟨k1, k2, k4⟩ := lk
  have cb := LkB.call (mc' := mc') (ms' := ms') hX hR k4 k1 hd
  obtain ⟨hx, hby, hml, hown, hts, hF, -, hsz, h0⟩ := id hX
  obtain ⟨rfl, R1, R2, R3, R4, R5⟩ := id hR
  have hst : (As.reverse ++ st).map (tv D) = (As.map (tv D)).reverse ++ st.map (tv D) := by
    rw [List.map_append, List.map_reverse]
  rw [hst]
  refine J.call (a := (As.map (tv D)).toArray) (st := st) (vx_runS (own := own) (As := As.map (tv D)) (rest := st.map (tv D)) ⟨hx, hby, hml, hown, hts⟩ hM ⟨cb, hts _ k2⟩ ⟨PcML.blind, fun U hU hW => ⟨rfl, by rw [hU]; exact hRl, hF.moved hW, NC.moved hW.alike hN, ScU.moved hW.alike hS⟩⟩ rfl (by rw [List.length_map]; exact hn) (by show lsA.size = nL; exact hL.2.1) rfl ?_ dd ⟨by omega, by omega⟩) hz hl hL (by omega) R5 ?_ ?_
  · rw [map_cat]
    show 2 * 0 + _ ≤ 8
    omega
  · rintro v G2 I2 L2 ⟨Iv, q1, q2⟩
    exact kret v Iv L2 q2 G2 I2 q1
  · rintro E G2 I2 L2 ⟨Iv, q1, q2⟩
    exact absurd q2 (kthr _ _ _)
theorem q_SLw0 (hX : OK X D cc own nL) (hR : Room2 X l0 D d mc ms) (hN : NCX X) {nn : Nat} {xs : Nat → Int32} (hS : ScrX X D nn xs) {M : MD} {hh : List (Nat × Nat × Nat × Nat)} {idx n : Nat} {As : List Value} {d' mc' ms' : Nat} {P : Res → IT → LT → Prop} (hM : ConLW l0 D nn xs M hh d' As mc' ms' I L P) (lk : LkSW own idx M hh n) (dd : decode cc pc = .ok (.invokestatic idx, 3)) (hn : As.length = n) (hs : stk = As.reverse ++ st) (hcat : (st.map fun v => v.category).sum ≤ 8) (hd : d' + 1 ≤ d) (h1 : c + mc' ≤ mc) (h2 : w + ms' ≤ ms)
    (kret : ∀ v I2 L2, P (.inl v) I2 L2 → J2 X D nL (c + mc') (w + ms') I2 L2 (pc + 3) ls (v.toList ++ st)) (kthr : ∀ E I2 L2, ¬ P (.inr E) I2 L2) : J2 X D nL c w I L pc ls stk := by
  intro G I' hlb
  refine J.bound hR h1 (fun hbd => ?_)
  have hM := hM G I' hlb (Or.inr hbd)
  obtain ⟨p, l, e, R, s, m, args, below, meth, c0, Q⟩ := X
  intro H locs lsA hRl hz hl hL
  subst hs
  obtain ⟨g1, g2, g3, g4, g5, g6, g7⟩ := lk
  obtain ⟨hx, hby, hml, hown, hts, hF, -, hsz, h0⟩ := id hX
  obtain ⟨rfl, R1, R2, R3, R4, R5⟩ := id hR
  have hst : (As.reverse ++ st).map (tv D) = (As.map (tv D)).reverse ++ st.map (tv D) := by
    rw [List.map_append, List.map_reverse]
  rw [hst]
  have cw : vx_CSW R s args own idx M.1 M.2.1 M.2.2.1 M.2.2.2 hh (Cond.codeWith M.1 M.2.1 M.2.2.1 M.2.2.2 hh :: TW) (rmD d' mc' ms') mc' ms' n :=
    ⟨⟨rfl, rfl, by show d' + 1 ≤ R.frames; omega, by show 8 + (M.2.2.1 + 11) + (64 * d' + 64) ≤ R.locals; omega, code_words hts g4, List.mem_cons_self⟩, hts _ g4, hts _ g3, g5, fun sig hsg => by
      rw [hsg] at g6
      exact (Option.some.inj g6).symm, hts _ g1, hts _ g2⟩
  refine J.call (a := (As.map (tv D)).toArray) (st := st) (vx_runSX (own := own) (As := As.map (tv D)) (rest := st.map (tv D)) ⟨hx, hby, hml, hown, hts⟩ hM cw ⟨PcML.blind, fun U hU hW => ⟨rfl, by rw [hU]; exact hRl, hF.moved hW, NC.moved hW.alike hN, ScU.moved hW.alike hS⟩⟩ rfl (by rw [List.length_map]; exact hn) (by show lsA.size = nL; exact hL.2.1) rfl ?_ dd ⟨by omega, by omega⟩) hz hl hL (by omega) R5 ?_ ?_
  · rw [map_cat]
    show 2 * 0 + _ ≤ 8
    omega
  · rintro v G2 I2 L2 ⟨Iv, q1, q2⟩
    exact kret v Iv L2 q2 G2 I2 q1
  · rintro E G2 I2 L2 ⟨Iv, q1, q2⟩
    exact absurd q2 (kthr _ _ _)
theorem q_W_v (hX : OK X D cc own nL) (hR : Room2 X l0 D d mc ms) {M : MD} {idx n b : Nat} {C : String} {As : List Value} {d' mc' ms' : Nat} {K : IT → Prop} {KT : String → IT → Prop} (hM : Con2 l0 D M d' (.ref b :: As) mc' ms' I L (Px (Pv L K) L KT)) (lk : LkV own idx C M n) (hrc : RC2 C b) (dd : decode cc pc = .ok (.invokevirtual idx, 3)) (hn : As.length = n) (hs : stk = As.reverse ++ .ref b :: st) (hcat : (st.map fun v => v.category).sum ≤ 8) (hd : d' + 1 ≤ d) (h1 : c + mc' ≤ mc) (h2 : w + ms' ≤ ms) (kret : ∀ I2, K I2 → J2 X D nL (c + mc') (w + ms') I2 L (pc + 3) ls (st)) (kthr : ∀ E I2, KT E I2 → JT2 X D nL (c + mc') (w + ms') I2 L pc ls E) : J2 X D nL c w I L pc ls stk := q_V hX hR hM lk hrc dd hn hs hcat hd h1 h2 (fun v I2 L2 hh => hh.elim (fun hh => by obtain ⟨rfl, e, h⟩ := hh; cases e; exact kret _ h) (fun hh => by obtain ⟨-, E, e, -⟩ := hh; cases e)) (fun E I2 L2 hh => hh.elim (fun hh => by obtain ⟨-, e, -⟩ := hh; cases e) (fun hh => by obtain ⟨rfl, E, e, h⟩ := hh; cases e; exact kthr _ _ h))
theorem q_W_vp (hX : OK X D cc own nL) (hR : Room2 X l0 D d mc ms) {M : MD} {idx n b : Nat} {C : String} {As : List Value} {d' mc' ms' : Nat} {K : Prop} {KT : String → Prop} (hM : Con2 l0 D M d' (.ref b :: As) mc' ms' I L (Px (Pv L (fun I' => I' = I ∧ K)) L (fun E I' => I' = I ∧ KT E))) (lk : LkV own idx C M n) (hrc : RC2 C b) (dd : decode cc pc = .ok (.invokevirtual idx, 3)) (hn : As.length = n) (hs : stk = As.reverse ++ .ref b :: st) (hcat : (st.map fun v => v.category).sum ≤ 8) (hd : d' + 1 ≤ d) (h1 : c + mc' ≤ mc) (h2 : w + ms' ≤ ms) (kret : K → J2 X D nL (c + mc') (w + ms') I L (pc + 3) ls (st)) (kthr : ∀ E, KT E → JT2 X D nL (c + mc') (w + ms') I L pc ls E) : J2 X D nL c w I L pc ls stk := q_V hX hR hM lk hrc dd hn hs hcat hd h1 h2 (fun v I2 L2 hh => hh.elim (fun hh => by obtain ⟨rfl, e, h⟩ := hh; cases e; obtain ⟨rfl, h⟩ := h; exact kret h) (fun hh => by obtain ⟨-, E, e, -⟩ := hh; cases e)) (fun E I2 L2 hh => hh.elim (fun hh => by obtain ⟨-, e, -⟩ := hh; cases e) (fun hh => by obtain ⟨rfl, E, e, h⟩ := hh; cases e; obtain ⟨rfl, h⟩ := h; exact kthr _ h))
theorem q_W_i (hX : OK X D cc own nL) (hR : Room2 X l0 D d mc ms) {M : MD} {idx n b : Nat} {C : String} {As : List Value} {d' mc' ms' : Nat} {K : Int32 → IT → Prop} {KT : String → IT → Prop} (hM : Con2 l0 D M d' (.ref b :: As) mc' ms' I L (Px (Pi L K) L KT)) (lk : LkV own idx C M n) (hrc : RC2 C b) (dd : decode cc pc = .ok (.invokevirtual idx, 3)) (hn : As.length = n) (hs : stk = As.reverse ++ .ref b :: st) (hcat : (st.map fun v => v.category).sum ≤ 8) (hd : d' + 1 ≤ d) (h1 : c + mc' ≤ mc) (h2 : w + ms' ≤ ms) (kret : ∀ x I2, K x I2 → J2 X D nL (c + mc') (w + ms') I2 L (pc + 3) ls (.int x :: st)) (kthr : ∀ E I2, KT E I2 → JT2 X D nL (c + mc') (w + ms') I2 L pc ls E) : J2 X D nL c w I L pc ls stk := q_V hX hR hM lk hrc dd hn hs hcat hd h1 h2 (fun v I2 L2 hh => hh.elim (fun hh => by obtain ⟨rfl, x, e, h⟩ := hh; cases e; exact kret x _ h) (fun hh => by obtain ⟨-, E, e, -⟩ := hh; cases e)) (fun E I2 L2 hh => hh.elim (fun hh => by obtain ⟨-, x, e, -⟩ := hh; cases e) (fun hh => by obtain ⟨rfl, E, e, h⟩ := hh; cases e; exact kthr _ _ h))
theorem q_W_ip (hX : OK X D cc own nL) (hR : Room2 X l0 D d mc ms) {M : MD} {idx n b : Nat} {C : String} {As : List Value} {d' mc' ms' : Nat} {K : Int32 → Prop} {KT : String → Prop} (hM : Con2 l0 D M d' (.ref b :: As) mc' ms' I L (Px (Pi L (fun x I' => I' = I ∧ K x)) L (fun E I' => I' = I ∧ KT E))) (lk : LkV own idx C M n) (hrc : RC2 C b) (dd : decode cc pc = .ok (.invokevirtual idx, 3)) (hn : As.length = n) (hs : stk = As.reverse ++ .ref b :: st) (hcat : (st.map fun v => v.category).sum ≤ 8) (hd : d' + 1 ≤ d) (h1 : c + mc' ≤ mc) (h2 : w + ms' ≤ ms) (kret : ∀ x, K x → J2 X D nL (c + mc') (w + ms') I L (pc + 3) ls (.int x :: st)) (kthr : ∀ E, KT E → JT2 X D nL (c + mc') (w + ms') I L pc ls E) : J2 X D nL c w I L pc ls stk := q_V hX hR hM lk hrc dd hn hs hcat hd h1 h2 (fun v I2 L2 hh => hh.elim (fun hh => by obtain ⟨rfl, x, e, h⟩ := hh; cases e; obtain ⟨rfl, h⟩ := h; exact kret x h) (fun hh => by obtain ⟨-, E, e, -⟩ := hh; cases e)) (fun E I2 L2 hh => hh.elim (fun hh => by obtain ⟨-, x, e, -⟩ := hh; cases e) (fun hh => by obtain ⟨rfl, E, e, h⟩ := hh; cases e; obtain ⟨rfl, h⟩ := h; exact kthr _ h))
theorem q_W_z (hX : OK X D cc own nL) (hR : Room2 X l0 D d mc ms) {M : MD} {idx n b : Nat} {C : String} {As : List Value} {d' mc' ms' : Nat} {K : Int32 → IT → Prop} {KT : String → IT → Prop} (hM : Con2 l0 D M d' (.ref b :: As) mc' ms' I L (Px (Pz L K) L KT)) (lk : LkV own idx C M n) (hrc : RC2 C b) (dd : decode cc pc = .ok (.invokevirtual idx, 3)) (hn : As.length = n) (hs : stk = As.reverse ++ .ref b :: st) (hcat : (st.map fun v => v.category).sum ≤ 8) (hd : d' + 1 ≤ d) (h1 : c + mc' ≤ mc) (h2 : w + ms' ≤ ms) (kret : ∀ x I2, isZ x → K x I2 → J2 X D nL (c + mc') (w + ms') I2 L (pc + 3) ls (.int x :: st)) (kthr : ∀ E I2, KT E I2 → JT2 X D nL (c + mc') (w + ms') I2 L pc ls E) : J2 X D nL c w I L pc ls stk := q_V hX hR hM lk hrc dd hn hs hcat hd h1 h2 (fun v I2 L2 hh => hh.elim (fun hh => by obtain ⟨rfl, x, e, hz, h⟩ := hh; cases e; exact kret x _ hz h) (fun hh => by obtain ⟨-, E, e, -⟩ := hh; cases e)) (fun E I2 L2 hh => hh.elim (fun hh => by obtain ⟨-, x, e, -⟩ := hh; cases e) (fun hh => by obtain ⟨rfl, E, e, h⟩ := hh; cases e; exact kthr _ _ h))
theorem q_W_zp (hX : OK X D cc own nL) (hR : Room2 X l0 D d mc ms) {M : MD} {idx n b : Nat} {C : String} {As : List Value} {d' mc' ms' : Nat} {K : Int32 → Prop} {KT : String → Prop} (hM : Con2 l0 D M d' (.ref b :: As) mc' ms' I L (Px (Pz L (fun x I' => I' = I ∧ K x)) L (fun E I' => I' = I ∧ KT E))) (lk : LkV own idx C M n) (hrc : RC2 C b) (dd : decode cc pc = .ok (.invokevirtual idx, 3)) (hn : As.length = n) (hs : stk = As.reverse ++ .ref b :: st) (hcat : (st.map fun v => v.category).sum ≤ 8) (hd : d' + 1 ≤ d) (h1 : c + mc' ≤ mc) (h2 : w + ms' ≤ ms) (kret : ∀ x, isZ x → K x → J2 X D nL (c + mc') (w + ms') I L (pc + 3) ls (.int x :: st)) (kthr : ∀ E, KT E → JT2 X D nL (c + mc') (w + ms') I L pc ls E) : J2 X D nL c w I L pc ls stk := q_V hX hR hM lk hrc dd hn hs hcat hd h1 h2 (fun v I2 L2 hh => hh.elim (fun hh => by obtain ⟨rfl, x, e, hz, h⟩ := hh; cases e; obtain ⟨rfl, h⟩ := h; exact kret x hz h) (fun hh => by obtain ⟨-, E, e, -⟩ := hh; cases e)) (fun E I2 L2 hh => hh.elim (fun hh => by obtain ⟨-, x, e, -⟩ := hh; cases e) (fun hh => by obtain ⟨rfl, E, e, h⟩ := hh; cases e; obtain ⟨rfl, h⟩ := h; exact kthr _ h))
theorem q_W_c (hX : OK X D cc own nL) (hR : Room2 X l0 D d mc ms) {M : MD} {idx n b : Nat} {C : String} {As : List Value} {d' mc' ms' : Nat} {K : Int32 → IT → Prop} {KT : String → IT → Prop} (hM : Con2 l0 D M d' (.ref b :: As) mc' ms' I L (Px (Pc L K) L KT)) (lk : LkV own idx C M n) (hrc : RC2 C b) (dd : decode cc pc = .ok (.invokevirtual idx, 3)) (hn : As.length = n) (hs : stk = As.reverse ++ .ref b :: st) (hcat : (st.map fun v => v.category).sum ≤ 8) (hd : d' + 1 ≤ d) (h1 : c + mc' ≤ mc) (h2 : w + ms' ≤ ms) (kret : ∀ x I2, isC x → K x I2 → J2 X D nL (c + mc') (w + ms') I2 L (pc + 3) ls (.int x :: st)) (kthr : ∀ E I2, KT E I2 → JT2 X D nL (c + mc') (w + ms') I2 L pc ls E) : J2 X D nL c w I L pc ls stk := q_V hX hR hM lk hrc dd hn hs hcat hd h1 h2 (fun v I2 L2 hh => hh.elim (fun hh => by obtain ⟨rfl, x, e, hz, h⟩ := hh; cases e; exact kret x _ hz h) (fun hh => by obtain ⟨-, E, e, -⟩ := hh; cases e)) (fun E I2 L2 hh => hh.elim (fun hh => by obtain ⟨-, x, e, -⟩ := hh; cases e) (fun hh => by obtain ⟨rfl, E, e, h⟩ := hh; cases e; exact kthr _ _ h))
theorem q_W_cp (hX : OK X D cc own nL) (hR : Room2 X l0 D d mc ms) {M : MD} {idx n b : Nat} {C : String} {As : List Value} {d' mc' ms' : Nat} {K : Int32 → Prop} {KT : String → Prop} (hM : Con2 l0 D M d' (.ref b :: As) mc' ms' I L (Px (Pc L (fun x I' => I' = I ∧ K x)) L (fun E I' => I' = I ∧ KT E))) (lk : LkV own idx C M n) (hrc : RC2 C b) (dd : decode cc pc = .ok (.invokevirtual idx, 3)) (hn : As.length = n) (hs : stk = As.reverse ++ .ref b :: st) (hcat : (st.map fun v => v.category).sum ≤ 8) (hd : d' + 1 ≤ d) (h1 : c + mc' ≤ mc) (h2 : w + ms' ≤ ms) (kret : ∀ x, isC x → K x → J2 X D nL (c + mc') (w + ms') I L (pc + 3) ls (.int x :: st)) (kthr : ∀ E, KT E → JT2 X D nL (c + mc') (w + ms') I L pc ls E) : J2 X D nL c w I L pc ls stk := q_V hX hR hM lk hrc dd hn hs hcat hd h1 h2 (fun v I2 L2 hh => hh.elim (fun hh => by obtain ⟨rfl, x, e, hz, h⟩ := hh; cases e; obtain ⟨rfl, h⟩ := h; exact kret x hz h) (fun hh => by obtain ⟨-, E, e, -⟩ := hh; cases e)) (fun E I2 L2 hh => hh.elim (fun hh => by obtain ⟨-, x, e, -⟩ := hh; cases e) (fun hh => by obtain ⟨rfl, E, e, h⟩ := hh; cases e; obtain ⟨rfl, h⟩ := h; exact kthr _ h))
theorem q_W_f (hX : OK X D cc own nL) (hR : Room2 X l0 D d mc ms) {M : MD} {idx n b : Nat} {C : String} {As : List Value} {d' mc' ms' : Nat} {K : UInt32 → IT → Prop} {KT : String → IT → Prop} (hM : Con2 l0 D M d' (.ref b :: As) mc' ms' I L (Px (Pf L K) L KT)) (lk : LkV own idx C M n) (hrc : RC2 C b) (dd : decode cc pc = .ok (.invokevirtual idx, 3)) (hn : As.length = n) (hs : stk = As.reverse ++ .ref b :: st) (hcat : (st.map fun v => v.category).sum ≤ 8) (hd : d' + 1 ≤ d) (h1 : c + mc' ≤ mc) (h2 : w + ms' ≤ ms) (kret : ∀ x I2, K x I2 → J2 X D nL (c + mc') (w + ms') I2 L (pc + 3) ls (.float x :: st)) (kthr : ∀ E I2, KT E I2 → JT2 X D nL (c + mc') (w + ms') I2 L pc ls E) : J2 X D nL c w I L pc ls stk := q_V hX hR hM lk hrc dd hn hs hcat hd h1 h2 (fun v I2 L2 hh => hh.elim (fun hh => by obtain ⟨rfl, x, e, h⟩ := hh; cases e; exact kret x _ h) (fun hh => by obtain ⟨-, E, e, -⟩ := hh; cases e)) (fun E I2 L2 hh => hh.elim (fun hh => by obtain ⟨-, x, e, -⟩ := hh; cases e) (fun hh => by obtain ⟨rfl, E, e, h⟩ := hh; cases e; exact kthr _ _ h))
theorem q_W_fp (hX : OK X D cc own nL) (hR : Room2 X l0 D d mc ms) {M : MD} {idx n b : Nat} {C : String} {As : List Value} {d' mc' ms' : Nat} {K : UInt32 → Prop} {KT : String → Prop} (hM : Con2 l0 D M d' (.ref b :: As) mc' ms' I L (Px (Pf L (fun x I' => I' = I ∧ K x)) L (fun E I' => I' = I ∧ KT E))) (lk : LkV own idx C M n) (hrc : RC2 C b) (dd : decode cc pc = .ok (.invokevirtual idx, 3)) (hn : As.length = n) (hs : stk = As.reverse ++ .ref b :: st) (hcat : (st.map fun v => v.category).sum ≤ 8) (hd : d' + 1 ≤ d) (h1 : c + mc' ≤ mc) (h2 : w + ms' ≤ ms) (kret : ∀ x, K x → J2 X D nL (c + mc') (w + ms') I L (pc + 3) ls (.float x :: st)) (kthr : ∀ E, KT E → JT2 X D nL (c + mc') (w + ms') I L pc ls E) : J2 X D nL c w I L pc ls stk := q_V hX hR hM lk hrc dd hn hs hcat hd h1 h2 (fun v I2 L2 hh => hh.elim (fun hh => by obtain ⟨rfl, x, e, h⟩ := hh; cases e; obtain ⟨rfl, h⟩ := h; exact kret x h) (fun hh => by obtain ⟨-, E, e, -⟩ := hh; cases e)) (fun E I2 L2 hh => hh.elim (fun hh => by obtain ⟨-, x, e, -⟩ := hh; cases e) (fun hh => by obtain ⟨rfl, E, e, h⟩ := hh; cases e; obtain ⟨rfl, h⟩ := h; exact kthr _ h))
theorem q_W_d (hX : OK X D cc own nL) (hR : Room2 X l0 D d mc ms) {M : MD} {idx n b : Nat} {C : String} {As : List Value} {d' mc' ms' : Nat} {K : UInt64 → IT → Prop} {KT : String → IT → Prop} (hM : Con2 l0 D M d' (.ref b :: As) mc' ms' I L (Px (Pd L K) L KT)) (lk : LkV own idx C M n) (hrc : RC2 C b) (dd : decode cc pc = .ok (.invokevirtual idx, 3)) (hn : As.length = n) (hs : stk = As.reverse ++ .ref b :: st) (hcat : (st.map fun v => v.category).sum ≤ 8) (hd : d' + 1 ≤ d) (h1 : c + mc' ≤ mc) (h2 : w + ms' ≤ ms) (kret : ∀ x I2, K x I2 → J2 X D nL (c + mc') (w + ms') I2 L (pc + 3) ls (.double x :: st)) (kthr : ∀ E I2, KT E I2 → JT2 X D nL (c + mc') (w + ms') I2 L pc ls E) : J2 X D nL c w I L pc ls stk := q_V hX hR hM lk hrc dd hn hs hcat hd h1 h2 (fun v I2 L2 hh => hh.elim (fun hh => by obtain ⟨rfl, x, e, h⟩ := hh; cases e; exact kret x _ h) (fun hh => by obtain ⟨-, E, e, -⟩ := hh; cases e)) (fun E I2 L2 hh => hh.elim (fun hh => by obtain ⟨-, x, e, -⟩ := hh; cases e) (fun hh => by obtain ⟨rfl, E, e, h⟩ := hh; cases e; exact kthr _ _ h))
theorem q_W_dp (hX : OK X D cc own nL) (hR : Room2 X l0 D d mc ms) {M : MD} {idx n b : Nat} {C : String} {As : List Value} {d' mc' ms' : Nat} {K : UInt64 → Prop} {KT : String → Prop} (hM : Con2 l0 D M d' (.ref b :: As) mc' ms' I L (Px (Pd L (fun x I' => I' = I ∧ K x)) L (fun E I' => I' = I ∧ KT E))) (lk : LkV own idx C M n) (hrc : RC2 C b) (dd : decode cc pc = .ok (.invokevirtual idx, 3)) (hn : As.length = n) (hs : stk = As.reverse ++ .ref b :: st) (hcat : (st.map fun v => v.category).sum ≤ 8) (hd : d' + 1 ≤ d) (h1 : c + mc' ≤ mc) (h2 : w + ms' ≤ ms) (kret : ∀ x, K x → J2 X D nL (c + mc') (w + ms') I L (pc + 3) ls (.double x :: st)) (kthr : ∀ E, KT E → JT2 X D nL (c + mc') (w + ms') I L pc ls E) : J2 X D nL c w I L pc ls stk := q_V hX hR hM lk hrc dd hn hs hcat hd h1 h2 (fun v I2 L2 hh => hh.elim (fun hh => by obtain ⟨rfl, x, e, h⟩ := hh; cases e; obtain ⟨rfl, h⟩ := h; exact kret x h) (fun hh => by obtain ⟨-, E, e, -⟩ := hh; cases e)) (fun E I2 L2 hh => hh.elim (fun hh => by obtain ⟨-, x, e, -⟩ := hh; cases e) (fun hh => by obtain ⟨rfl, E, e, h⟩ := hh; cases e; obtain ⟨rfl, h⟩ := h; exact kthr _ h))
theorem q_SL_v (hX : OK X D cc own nL) (hR : Room2 X l0 D d mc ms) (hN : NCX X) {nn : Nat} {xs : Nat → Int32} (hS : ScrX X D nn xs) {M : MD} {idx n : Nat} {As : List Value} {d' mc' ms' : Nat} {K : IT → Prop} (hM : ConL l0 D nn xs M d' As mc' ms' I L (Pv L K)) (lk : LkS own idx M n) (dd : decode cc pc = .ok (.invokestatic idx, 3)) (hn : As.length = n) (hs : stk = As.reverse ++ st) (hcat : (st.map fun v => v.category).sum ≤ 8) (hd : d' + 1 ≤ d) (h1 : c + mc' ≤ mc) (h2 : w + ms' ≤ ms) (kret : ∀ I2, K I2 → J2 X D nL (c + mc') (w + ms') I2 L (pc + 3) ls (st)) : J2 X D nL c w I L pc ls stk := q_SL0 hX hR hN hS hM lk dd hn hs hcat hd h1 h2 (fun v I2 L2 h => by obtain ⟨rfl, e, h⟩ := h; cases e; exact kret _ h) (fun E I2 L2 h => by obtain ⟨-, e, -⟩ := h; cases e)
theorem q_SL_i (hX : OK X D cc own nL) (hR : Room2 X l0 D d mc ms) (hN : NCX X) {nn : Nat} {xs : Nat → Int32} (hS : ScrX X D nn xs) {M : MD} {idx n : Nat} {As : List Value} {d' mc' ms' : Nat} {K : Int32 → IT → Prop} (hM : ConL l0 D nn xs M d' As mc' ms' I L (Pi L K)) (lk : LkS own idx M n) (dd : decode cc pc = .ok (.invokestatic idx, 3)) (hn : As.length = n) (hs : stk = As.reverse ++ st) (hcat : (st.map fun v => v.category).sum ≤ 8) (hd : d' + 1 ≤ d) (h1 : c + mc' ≤ mc) (h2 : w + ms' ≤ ms) (kret : ∀ x I2, K x I2 → J2 X D nL (c + mc') (w + ms') I2 L (pc + 3) ls (.int x :: st)) : J2 X D nL c w I L pc ls stk := q_SL0 hX hR hN hS hM lk dd hn hs hcat hd h1 h2 (fun v I2 L2 h => by obtain ⟨rfl, x, e, h⟩ := h; cases e; exact kret x _ h) (fun E I2 L2 h => by obtain ⟨-, x, e, -⟩ := h; cases e)
theorem q_SL_z (hX : OK X D cc own nL) (hR : Room2 X l0 D d mc ms) (hN : NCX X) {nn : Nat} {xs : Nat → Int32} (hS : ScrX X D nn xs) {M : MD} {idx n : Nat} {As : List Value} {d' mc' ms' : Nat} {K : Int32 → IT → Prop} (hM : ConL l0 D nn xs M d' As mc' ms' I L (Pz L K)) (lk : LkS own idx M n) (dd : decode cc pc = .ok (.invokestatic idx, 3)) (hn : As.length = n) (hs : stk = As.reverse ++ st) (hcat : (st.map fun v => v.category).sum ≤ 8) (hd : d' + 1 ≤ d) (h1 : c + mc' ≤ mc) (h2 : w + ms' ≤ ms) (kret : ∀ x I2, isZ x → K x I2 → J2 X D nL (c + mc') (w + ms') I2 L (pc + 3) ls (.int x :: st)) : J2 X D nL c w I L pc ls stk := q_SL0 hX hR hN hS hM lk dd hn hs hcat hd h1 h2 (fun v I2 L2 h => by obtain ⟨rfl, x, e, hz, h⟩ := h; cases e; exact kret x _ hz h) (fun E I2 L2 h => by obtain ⟨-, x, e, -⟩ := h; cases e)
theorem q_SL_f (hX : OK X D cc own nL) (hR : Room2 X l0 D d mc ms) (hN : NCX X) {nn : Nat} {xs : Nat → Int32} (hS : ScrX X D nn xs) {M : MD} {idx n : Nat} {As : List Value} {d' mc' ms' : Nat} {K : UInt32 → IT → Prop} (hM : ConL l0 D nn xs M d' As mc' ms' I L (Pf L K)) (lk : LkS own idx M n) (dd : decode cc pc = .ok (.invokestatic idx, 3)) (hn : As.length = n) (hs : stk = As.reverse ++ st) (hcat : (st.map fun v => v.category).sum ≤ 8) (hd : d' + 1 ≤ d) (h1 : c + mc' ≤ mc) (h2 : w + ms' ≤ ms) (kret : ∀ x I2, K x I2 → J2 X D nL (c + mc') (w + ms') I2 L (pc + 3) ls (.float x :: st)) : J2 X D nL c w I L pc ls stk := q_SL0 hX hR hN hS hM lk dd hn hs hcat hd h1 h2 (fun v I2 L2 h => by obtain ⟨rfl, x, e, h⟩ := h; cases e; exact kret x _ h) (fun E I2 L2 h => by obtain ⟨-, x, e, -⟩ := h; cases e)
theorem q_SLw_v (hX : OK X D cc own nL) (hR : Room2 X l0 D d mc ms) (hN : NCX X) {nn : Nat} {xs : Nat → Int32} (hS : ScrX X D nn xs) {M : MD} {hh : List (Nat × Nat × Nat × Nat)} {idx n : Nat} {As : List Value} {d' mc' ms' : Nat} {K : IT → Prop} (hM : ConLW l0 D nn xs M hh d' As mc' ms' I L (Pv L K)) (lk : LkSW own idx M hh n) (dd : decode cc pc = .ok (.invokestatic idx, 3)) (hn : As.length = n) (hs : stk = As.reverse ++ st) (hcat : (st.map fun v => v.category).sum ≤ 8) (hd : d' + 1 ≤ d) (h1 : c + mc' ≤ mc) (h2 : w + ms' ≤ ms) (kret : ∀ I2, K I2 → J2 X D nL (c + mc') (w + ms') I2 L (pc + 3) ls (st)) : J2 X D nL c w I L pc ls stk := q_SLw0 hX hR hN hS hM lk dd hn hs hcat hd h1 h2 (fun v I2 L2 h => by obtain ⟨rfl, e, h⟩ := h; cases e; exact kret _ h) (fun E I2 L2 h => by obtain ⟨-, e, -⟩ := h; cases e)
theorem q_SLw_i (hX : OK X D cc own nL) (hR : Room2 X l0 D d mc ms) (hN : NCX X) {nn : Nat} {xs : Nat → Int32} (hS : ScrX X D nn xs) {M : MD} {hh : List (Nat × Nat × Nat × Nat)} {idx n : Nat} {As : List Value} {d' mc' ms' : Nat} {K : Int32 → IT → Prop} (hM : ConLW l0 D nn xs M hh d' As mc' ms' I L (Pi L K)) (lk : LkSW own idx M hh n) (dd : decode cc pc = .ok (.invokestatic idx, 3)) (hn : As.length = n) (hs : stk = As.reverse ++ st) (hcat : (st.map fun v => v.category).sum ≤ 8) (hd : d' + 1 ≤ d) (h1 : c + mc' ≤ mc) (h2 : w + ms' ≤ ms) (kret : ∀ x I2, K x I2 → J2 X D nL (c + mc') (w + ms') I2 L (pc + 3) ls (.int x :: st)) : J2 X D nL c w I L pc ls stk := q_SLw0 hX hR hN hS hM lk dd hn hs hcat hd h1 h2 (fun v I2 L2 h => by obtain ⟨rfl, x, e, h⟩ := h; cases e; exact kret x _ h) (fun E I2 L2 h => by obtain ⟨-, x, e, -⟩ := h; cases e)
theorem q_SLw_z (hX : OK X D cc own nL) (hR : Room2 X l0 D d mc ms) (hN : NCX X) {nn : Nat} {xs : Nat → Int32} (hS : ScrX X D nn xs) {M : MD} {hh : List (Nat × Nat × Nat × Nat)} {idx n : Nat} {As : List Value} {d' mc' ms' : Nat} {K : Int32 → IT → Prop} (hM : ConLW l0 D nn xs M hh d' As mc' ms' I L (Pz L K)) (lk : LkSW own idx M hh n) (dd : decode cc pc = .ok (.invokestatic idx, 3)) (hn : As.length = n) (hs : stk = As.reverse ++ st) (hcat : (st.map fun v => v.category).sum ≤ 8) (hd : d' + 1 ≤ d) (h1 : c + mc' ≤ mc) (h2 : w + ms' ≤ ms) (kret : ∀ x I2, isZ x → K x I2 → J2 X D nL (c + mc') (w + ms') I2 L (pc + 3) ls (.int x :: st)) : J2 X D nL c w I L pc ls stk := q_SLw0 hX hR hN hS hM lk dd hn hs hcat hd h1 h2 (fun v I2 L2 h => by obtain ⟨rfl, x, e, hz, h⟩ := h; cases e; exact kret x _ hz h) (fun E I2 L2 h => by obtain ⟨-, x, e, -⟩ := h; cases e)
theorem q_SLw_f (hX : OK X D cc own nL) (hR : Room2 X l0 D d mc ms) (hN : NCX X) {nn : Nat} {xs : Nat → Int32} (hS : ScrX X D nn xs) {M : MD} {hh : List (Nat × Nat × Nat × Nat)} {idx n : Nat} {As : List Value} {d' mc' ms' : Nat} {K : UInt32 → IT → Prop} (hM : ConLW l0 D nn xs M hh d' As mc' ms' I L (Pf L K)) (lk : LkSW own idx M hh n) (dd : decode cc pc = .ok (.invokestatic idx, 3)) (hn : As.length = n) (hs : stk = As.reverse ++ st) (hcat : (st.map fun v => v.category).sum ≤ 8) (hd : d' + 1 ≤ d) (h1 : c + mc' ≤ mc) (h2 : w + ms' ≤ ms) (kret : ∀ x I2, K x I2 → J2 X D nL (c + mc') (w + ms') I2 L (pc + 3) ls (.float x :: st)) : J2 X D nL c w I L pc ls stk := q_SLw0 hX hR hN hS hM lk dd hn hs hcat hd h1 h2 (fun v I2 L2 h => by obtain ⟨rfl, x, e, h⟩ := h; cases e; exact kret x _ h) (fun E I2 L2 h => by obtain ⟨-, x, e, -⟩ := h; cases e)
end LawQ
def m_L_addKettle : MD := (yL_addKettle, cL_addKettle, 3, (some .int))
theorem lk_LW_101 : LkSW "TeaHouseLaw" 101 m_L_addKettle [(0, 5, 6, 19), (0, 5, 11, 21)] 2 := ⟨TW_of (i := 1151) (by decide +kernel) (by decide +kernel), TW_of (i := 1152) (by decide +kernel) (by decide +kernel), TW_of (i := 24) (by decide +kernel) (by decide +kernel), TW_of (i := 1153) (by decide +kernel) (by decide +kernel), ⟨by decide +kernel, by decide +kernel⟩, by decide +kernel, by decide⟩
def m_L_fill : MD := (yL_fill, cL_fill, 4, (some .float))
theorem lk_LW_104 : LkSW "TeaHouseLaw" 104 m_L_fill [(0, 6, 7, 27), (0, 6, 11, 19), (0, 6, 15, 21)] 3 := ⟨TW_of (i := 1273) (by decide +kernel) (by decide +kernel), TW_of (i := 1274) (by decide +kernel) (by decide +kernel), TW_of (i := 24) (by decide +kernel) (by decide +kernel), TW_of (i := 1275) (by decide +kernel) (by decide +kernel), ⟨by decide +kernel, by decide +kernel⟩, by decide +kernel, by decide⟩
def m_L_setBurner : MD := (yL_setBurner, cL_setBurner, 4, (some .int))
theorem lk_LW_107 : LkSW "TeaHouseLaw" 107 m_L_setBurner [(0, 6, 7, 27), (0, 6, 12, 19)] 3 := ⟨TW_of (i := 1284) (by decide +kernel) (by decide +kernel), TW_of (i := 1285) (by decide +kernel) (by decide +kernel), TW_of (i := 24) (by decide +kernel) (by decide +kernel), TW_of (i := 1286) (by decide +kernel) (by decide +kernel), ⟨by decide +kernel, by decide +kernel⟩, by decide +kernel, by decide⟩
def m_L_order : MD := (yL_order, cL_order, 6, (some .int))
theorem lk_LW_120 : LkSW "TeaHouseLaw" 120 m_L_order [(0, 9, 10, 19), (0, 9, 16, 21)] 5 := ⟨TW_of (i := 1296) (by decide +kernel) (by decide +kernel), TW_of (i := 1297) (by decide +kernel) (by decide +kernel), TW_of (i := 24) (by decide +kernel) (by decide +kernel), TW_of (i := 1298) (by decide +kernel) (by decide +kernel), ⟨by decide +kernel, by decide +kernel⟩, by decide +kernel, by decide⟩
def m_L_cancel : MD := (yL_cancel, cL_cancel, 3, (some .int))
theorem lk_LW_123 : LkSW "TeaHouseLaw" 123 m_L_cancel [(0, 5, 6, 43)] 2 := ⟨TW_of (i := 1305) (by decide +kernel) (by decide +kernel), TW_of (i := 1306) (by decide +kernel) (by decide +kernel), TW_of (i := 24) (by decide +kernel) (by decide +kernel), TW_of (i := 1307) (by decide +kernel) (by decide +kernel), ⟨by decide +kernel, by decide +kernel⟩, by decide +kernel, by decide⟩
def m_L_serveNext : MD := (yL_serveNext, cL_serveNext, 2, (some .int))
theorem lk_LW_125 : LkSW "TeaHouseLaw" 125 m_L_serveNext [(0, 4, 5, 21)] 1 := ⟨TW_of (i := 1314) (by decide +kernel) (by decide +kernel), TW_of (i := 1315) (by decide +kernel) (by decide +kernel), TW_of (i := 24) (by decide +kernel) (by decide +kernel), TW_of (i := 1316) (by decide +kernel) (by decide +kernel), ⟨by decide +kernel, by decide +kernel⟩, by decide +kernel, by decide⟩
def m_L_wash : MD := (yL_wash, cL_wash, 3, (some .int))
theorem lk_LW_128 : LkSW "TeaHouseLaw" 128 m_L_wash [(0, 5, 6, 19), (0, 5, 11, 21)] 2 := ⟨TW_of (i := 1321) (by decide +kernel) (by decide +kernel), TW_of (i := 1322) (by decide +kernel) (by decide +kernel), TW_of (i := 24) (by decide +kernel) (by decide +kernel), TW_of (i := 1323) (by decide +kernel) (by decide +kernel), ⟨by decide +kernel, by decide +kernel⟩, by decide +kernel, by decide⟩
def m_L_sellSteam : MD := (yL_sellSteam, cL_sellSteam, 3, (some .float))
theorem lk_LW_130 : LkSW "TeaHouseLaw" 130 m_L_sellSteam [(0, 5, 6, 19), (0, 5, 10, 21)] 2 := ⟨TW_of (i := 1330) (by decide +kernel) (by decide +kernel), TW_of (i := 1331) (by decide +kernel) (by decide +kernel), TW_of (i := 24) (by decide +kernel) (by decide +kernel), TW_of (i := 1332) (by decide +kernel) (by decide +kernel), ⟨by decide +kernel, by decide +kernel⟩, by decide +kernel, by decide⟩
def m_L_setCupPrice : MD := (yL_setCupPrice, cL_setCupPrice, 3, (some .float))
theorem lk_LW_133 : LkSW "TeaHouseLaw" 133 m_L_setCupPrice [(0, 5, 6, 19)] 2 := ⟨TW_of (i := 1339) (by decide +kernel) (by decide +kernel), TW_of (i := 1340) (by decide +kernel) (by decide +kernel), TW_of (i := 24) (by decide +kernel) (by decide +kernel), TW_of (i := 1341) (by decide +kernel) (by decide +kernel), ⟨by decide +kernel, by decide +kernel⟩, by decide +kernel, by decide⟩
def m_L_setSteamPrice : MD := (yL_setSteamPrice, cL_setSteamPrice, 3, (some .float))
theorem lk_LW_135 : LkSW "TeaHouseLaw" 135 m_L_setSteamPrice [(0, 5, 6, 19)] 2 := ⟨TW_of (i := 1348) (by decide +kernel) (by decide +kernel), TW_of (i := 1349) (by decide +kernel) (by decide +kernel), TW_of (i := 24) (by decide +kernel) (by decide +kernel), TW_of (i := 1350) (by decide +kernel) (by decide +kernel), ⟨by decide +kernel, by decide +kernel⟩, by decide +kernel, by decide⟩
def m_L_closeNight : MD := (yL_closeNight, cL_closeNight, 2, (some .float))
theorem lk_LW_141 : LkSW "TeaHouseLaw" 141 m_L_closeNight [(0, 4, 5, 21)] 1 := ⟨TW_of (i := 1363) (by decide +kernel) (by decide +kernel), TW_of (i := 1364) (by decide +kernel) (by decide +kernel), TW_of (i := 24) (by decide +kernel) (by decide +kernel), TW_of (i := 1365) (by decide +kernel) (by decide +kernel), ⟨by decide +kernel, by decide +kernel⟩, by decide +kernel, by decide⟩
def m_L_pass : MD := (yL_pass, cL_pass, 3, (some .int))
theorem lk_LW_144 : LkSW "TeaHouseLaw" 144 m_L_pass [(0, 5, 6, 19)] 2 := ⟨TW_of (i := 1372) (by decide +kernel) (by decide +kernel), TW_of (i := 1373) (by decide +kernel) (by decide +kernel), TW_of (i := 24) (by decide +kernel) (by decide +kernel), TW_of (i := 1374) (by decide +kernel) (by decide +kernel), ⟨by decide +kernel, by decide +kernel⟩, by decide +kernel, by decide⟩
def m_L_minutesUntilBoiling : MD := (yL_minutesUntilBoiling, cL_minutesUntilBoiling, 3, (some .int))
theorem lk_LW_211 : LkSW "TeaHouseLaw" 211 m_L_minutesUntilBoiling [(0, 5, 6, 27), (0, 5, 11, 43)] 2 := ⟨TW_of (i := 1087) (by decide +kernel) (by decide +kernel), TW_of (i := 1088) (by decide +kernel) (by decide +kernel), TW_of (i := 24) (by decide +kernel) (by decide +kernel), TW_of (i := 1089) (by decide +kernel) (by decide +kernel), ⟨by decide +kernel, by decide +kernel⟩, by decide +kernel, by decide⟩
def m_L_minutesUntilBoilingByMinutes : MD := (yL_minutesUntilBoilingByMinutes, cL_minutesUntilBoilingByMinutes, 3, (some .int))
theorem lk_LW_213 : LkSW "TeaHouseLaw" 213 m_L_minutesUntilBoilingByMinutes [(0, 5, 6, 27), (0, 5, 11, 43)] 2 := ⟨TW_of (i := 1098) (by decide +kernel) (by decide +kernel), TW_of (i := 1099) (by decide +kernel) (by decide +kernel), TW_of (i := 24) (by decide +kernel) (by decide +kernel), TW_of (i := 1100) (by decide +kernel) (by decide +kernel), ⟨by decide +kernel, by decide +kernel⟩, by decide +kernel, by decide⟩
def m_L_kettleFor : MD := (yL_kettleFor, cL_kettleFor, 3, (some .int))
theorem lk_LW_266 : LkSW "TeaHouseLaw" 266 m_L_kettleFor [(0, 5, 6, 43)] 2 := ⟨TW_of (i := 1111) (by decide +kernel) (by decide +kernel), TW_of (i := 1112) (by decide +kernel) (by decide +kernel), TW_of (i := 24) (by decide +kernel) (by decide +kernel), TW_of (i := 1113) (by decide +kernel) (by decide +kernel), ⟨by decide +kernel, by decide +kernel⟩, by decide +kernel, by decide⟩
def m_L_minutesUntilSuitable : MD := (yL_minutesUntilSuitable, cL_minutesUntilSuitable, 3, (some .int))
theorem lk_LW_274 : LkSW "TeaHouseLaw" 274 m_L_minutesUntilSuitable [(0, 5, 6, 43)] 2 := ⟨TW_of (i := 1122) (by decide +kernel) (by decide +kernel), TW_of (i := 1123) (by decide +kernel) (by decide +kernel), TW_of (i := 24) (by decide +kernel) (by decide +kernel), TW_of (i := 1124) (by decide +kernel) (by decide +kernel), ⟨by decide +kernel, by decide +kernel⟩, by decide +kernel, by decide⟩
def m_L_greatestIncome : MD := (yL_greatestIncome, cL_greatestIncome, 3, (some .float))
theorem lk_LW_286 : LkSW "TeaHouseLaw" 286 m_L_greatestIncome [(0, 5, 6, 19), (0, 5, 10, 43)] 2 := ⟨TW_of (i := 1133) (by decide +kernel) (by decide +kernel), TW_of (i := 1134) (by decide +kernel) (by decide +kernel), TW_of (i := 24) (by decide +kernel) (by decide +kernel), TW_of (i := 1135) (by decide +kernel) (by decide +kernel), ⟨by decide +kernel, by decide +kernel⟩, by decide +kernel, by decide⟩
def m_L_greatestIncomeBySums : MD := (yL_greatestIncomeBySums, cL_greatestIncomeBySums, 3, (some .float))
theorem lk_LW_288 : LkSW "TeaHouseLaw" 288 m_L_greatestIncomeBySums [(0, 5, 6, 19), (0, 5, 10, 43)] 2 := ⟨TW_of (i := 1139) (by decide +kernel) (by decide +kernel), TW_of (i := 1140) (by decide +kernel) (by decide +kernel), TW_of (i := 24) (by decide +kernel) (by decide +kernel), TW_of (i := 1141) (by decide +kernel) (by decide +kernel), ⟨by decide +kernel, by decide +kernel⟩, by decide +kernel, by decide⟩
def m_L_kettleByTemperature : MD := (yL_kettleByTemperature, cL_kettleByTemperature, 3, (some .int))
theorem lk_LW_325 : LkSW "TeaHouseLaw" 325 m_L_kettleByTemperature [(0, 5, 6, 43)] 2 := ⟨TW_of (i := 1105) (by decide +kernel) (by decide +kernel), TW_of (i := 1106) (by decide +kernel) (by decide +kernel), TW_of (i := 24) (by decide +kernel) (by decide +kernel), TW_of (i := 1107) (by decide +kernel) (by decide +kernel), ⟨by decide +kernel, by decide +kernel⟩, by decide +kernel, by decide⟩
def m_L_orderAt : MD := (yL_orderAt, cL_orderAt, 3, (some .int))
theorem lk_LW_327 : LkSW "TeaHouseLaw" 327 m_L_orderAt [(0, 5, 6, 43)] 2 := ⟨TW_of (i := 1108) (by decide +kernel) (by decide +kernel), TW_of (i := 1109) (by decide +kernel) (by decide +kernel), TW_of (i := 24) (by decide +kernel) (by decide +kernel), TW_of (i := 1110) (by decide +kernel) (by decide +kernel), ⟨by decide +kernel, by decide +kernel⟩, by decide +kernel, by decide⟩
def m_L_nightByIncome : MD := (yL_nightByIncome, cL_nightByIncome, 3, (some .int))
theorem lk_LW_329 : LkSW "TeaHouseLaw" 329 m_L_nightByIncome [(0, 5, 6, 43)] 2 := ⟨TW_of (i := 1119) (by decide +kernel) (by decide +kernel), TW_of (i := 1120) (by decide +kernel) (by decide +kernel), TW_of (i := 24) (by decide +kernel) (by decide +kernel), TW_of (i := 1121) (by decide +kernel) (by decide +kernel), ⟨by decide +kernel, by decide +kernel⟩, by decide +kernel, by decide⟩
