/-! ===== calls of constructors, of a superclass's method ===== -/
def Quiet (P : Res → GT → IT → LT → Prop) : Prop := ∀ E G I L, ¬ P (.inr E) G I L
theorem Con.met {l : Launch} {D : DT} {M : MD} {d mc ms : Nat} {av : List Value} {G : GT} {I : IT} {L : LT} {P : Res → GT → IT → LT → Prop} (h : Con l D M d av mc ms G I L P) (hq : Quiet P) : Met l M.1 (Cond.code M.1 M.2.1 M.2.2.1 M.2.2.2 :: TW) (rmD d mc ms) (PcM D av G I L) (QcP D P) mc ms (Ad D) := by
  refine Free.MetFree.mono h (fun _ _ h => h) (fun _ _ _ _ _ h => h) (fun a s o s' _ h => ?_)
  rcases h with h | ⟨q, -, E, ce, L1, ⟨G', I', L', hP, -⟩, -⟩
  · exact h
  · exact absurd hP (hq _ _ _ _)
theorem J.callM {p : Program} {l : Launch} {e : Env} {R : Room} {s : State} {m : MethodId} {args : Array Value} {below : List Frame} {meth : Method} {c0 : Code} {Q : State → Prop} {D : DT} {nL c w mc ms : Nat} {pc : Nat} {ls st : List Value} {P : Res → GT → IT → LT → Prop} {a : Array Value} {H : Heap} {locs : List Loc} {lsA : Array Slot} {st0 : List Value}
    (hrun : va_Run p l e R s m args below meth c0 H locs c w mc ms (F0 m pc lsA st0) (st.map (tv D)) (QcP D P a) (Ad D)) (hz : s.heap.size ≤ H.size) (hl : ∀ q ∈ locs, D.1 ≤ q.base) (hL : lsR D nL lsA ls)
    (kret : ∀ v G' I' L', P (.inl v) G' I' L' → J (p, l, e, R, s, m, args, below, meth, c0, Q) D nL (c + mc) (w + ms) G' I' L' (pc + 3) ls (v.toList ++ st)) : W p l e R s m args below meth c0 H locs c w Q (F0 m pc lsA st0) := by
  intro T hT X
  obtain ⟨v, st₀, t, T', L1, h0, X', hL1, e1, e2, ⟨v', G', I', L', hv, hP, hR', hz'⟩, stp⟩ := hrun T hT X
  cases hv
  rw [h0] at hz'
  have hk := kret v' G' I' L' hP T'.heap (locs ++ L1) lsA (by rw [e1]; exact hR') (by rw [e1]; omega) (fun q hq => by
    rcases List.mem_append.mp hq with h | h
    · exact hl q h
    · exact hL1 q h) hL
  rw [List.map_append] at hk
  have ev : (v'.toList.map (tv D)) = (v'.map (tv D)).toList := by cases v' <;> rfl
  rw [ev] at hk
  obtain ⟨t2, a1, b1⟩ := hk T' rfl X'
  exact ⟨t2, stp t2 a1, b1⟩
def LkI (own : String) (idx : Nat) (M : MD) (n : Nat) : Prop := Cond.methodLink own idx M.1 ∈ TW ∧ Cond.instanceMethod M.1 ∈ TW ∧ M.1.name = "<init>" ∧ M.2.2.2 = none ∧ LkB own idx M n
def LkN (own : String) (idx : Nat) (M : MD) (host : String) (n : Nat) : Prop := Cond.methodLinkNest own idx M.1 host ∈ TW ∧ Cond.instanceMethod M.1 ∈ TW ∧ M.1.name = "<init>" ∧ M.2.2.2 = none ∧ LkB own idx M n
def LkSU (own : String) (idx : Nat) (M : MD) (n : Nat) : Prop := Cond.methodLink own idx M.1 ∈ TW ∧ Cond.sameMethod M.1.cls M.1.cls M.1.name M.1.desc ∈ TW ∧ Cond.superclass own M.1.cls ∈ TW ∧ Cond.instanceMethod M.1 ∈ TW ∧ M.1.name ≠ "<init>" ∧ LkB own idx M n
def LkU (own : String) (idx : Nat) (C owner : String) (x : MethodName) (M : MD) (n : Nat) : Prop := Cond.methodLink own idx x ∈ TW ∧ Cond.sameMethod x.cls owner x.name x.desc ∈ TW ∧ Cond.selects C x M.1 ∈ TW ∧ Cond.instanceMethod M.1 ∈ TW ∧ M.1 = ⟨owner, x.name, x.desc⟩ ∧ LkB own idx M n
theorem code_words {args : Array Value} {s : State} (hts : ∀ w ∈ TW, w.before args s = true) {w0 : Cond} (h0 : w0 ∈ TW) : ∀ w ∈ w0 :: TW, ∀ (a' : Array Value) (U : State), s.WarmedH U.vm → w.before a' U = true := by
  intro w hw a' U hW
  rcases List.mem_cons.mp hw with rfl | hw
  · exact TW_warm hW h0 (hts _ h0)
  · exact TW_warm hW hw (hts _ hw)
def LkSN (own : String) (idx : Nat) (M : MD) (host : String) (n : Nat) : Prop := Cond.methodLinkNest own idx M.1 host ∈ TW ∧ Cond.static M.1 ∈ TW ∧ LkB own idx M n
section Call2
variable {X : XT} {D : DT} {cc : ByteArray} {own : String} {nL c w : Nat} {G : GT} {I : IT} {L : LT} {pc : Nat} {ls st stk : List Value} {l0 : Launch} {P : Res → GT → IT → LT → Prop} {d mc ms d' mc' ms' : Nat}
theorem map_call {D : DT} {As st : List Value} {b : Nat} : (As.reverse ++ .ref b :: st).map (tv D) = (As.map (tv D)).reverse ++ .ref (ta D b) :: st.map (tv D) := by
  rw [List.map_append, List.map_reverse]; rfl
theorem r_callI (hX : OK X D cc own nL) (hroom : Room2 X l0 D d mc ms) {y : MethodName} {bytes : ByteArray} {maxL idx n b : Nat} {As : List Value} (hM : Con l0 D (y, bytes, maxL, none) d' (.ref b :: As) mc' ms' G I L P) (hq : Quiet P) (lk : LkI own idx (y, bytes, maxL, none) n) (dd : decode cc pc = .ok (.invokespecial idx, 3)) (hn : As.length = n) (hs : stk = As.reverse ++ .ref b :: st) (hcat : (st.map fun v => v.category).sum ≤ 8) (hd : d' + 1 ≤ d) (h1 : c + mc' ≤ mc) (h2 : w + ms' ≤ ms)
    (kret : ∀ v G' I' L', P (.inl v) G' I' L' → J X D nL (c + mc') (w + ms') G' I' L' (pc + 3) ls (v.toList ++ st)) : J X D nL c w G I L pc ls stk := by
  obtain ⟨p, l, e, R, s, m, args, below, meth, c0, Q⟩ := X
  intro H locs lsA hR hz hl hL
  subst hs
  obtain ⟨k1, k2, k3, -, k4⟩ := lk
  have cb := LkB.call (mc' := mc') (ms' := ms') hX hroom k4 k1 hd
  obtain ⟨hx, hby, hml, hown, hts, hF, -, hsz, h0⟩ := id hX
  obtain ⟨rfl, R1, R2, R3, R4, R5⟩ := id hroom
  rw [map_call]
  refine J.callM (a := (Value.ref (ta D b) :: As.map (tv D)).toArray) (st := st) (va_runI (own := own) (As := As.map (tv D)) (b := ta D b) (rest := st.map (tv D)) ⟨hx, hby, hml, hown, hts⟩ (hM.met hq) ⟨cb, k3, hts _ k2⟩ ⟨PcM.blind, fun U hU hW => ⟨rfl, by rw [hU]; exact hR, hF.moved hW⟩⟩ rfl (by rw [List.length_map]; exact hn) (by show lsA.size = nL; exact hL.2.1) rfl ?_ dd ⟨by omega, by omega⟩) hz hl hL kret
  rw [map_cat]
  show 2 * 0 + _ ≤ 8
  omega
theorem r_callN (hX : OK X D cc own nL) (hroom : Room2 X l0 D d mc ms) {y : MethodName} {bytes : ByteArray} {maxL idx n b : Nat} {host : String} {As : List Value} (hM : Con l0 D (y, bytes, maxL, none) d' (.ref b :: As) mc' ms' G I L P) (hq : Quiet P) (lk : LkN own idx (y, bytes, maxL, none) host n) (dd : decode cc pc = .ok (.invokespecial idx, 3)) (hn : As.length = n) (hs : stk = As.reverse ++ .ref b :: st) (hcat : (st.map fun v => v.category).sum ≤ 8) (hd : d' + 1 ≤ d) (h1 : c + mc' ≤ mc) (h2 : w + ms' ≤ ms)
    (kret : ∀ v G' I' L', P (.inl v) G' I' L' → J X D nL (c + mc') (w + ms') G' I' L' (pc + 3) ls (v.toList ++ st)) : J X D nL c w G I L pc ls stk := by
  obtain ⟨p, l, e, R, s, m, args, below, meth, c0, Q⟩ := X
  intro H locs lsA hR hz hl hL
  subst hs
  obtain ⟨k1, k2, k3, -, g1, g2, g3, g4, g5⟩ := lk
  obtain ⟨hx, hby, hml, hown, hts, hF, -, hsz, h0⟩ := id hX
  obtain ⟨rfl, R1, R2, R3, R4, R5⟩ := id hroom
  rw [map_call]
  have hg5 : maxL ≤ 40 := g5
  have cn : va_CN R s args own idx y host bytes maxL none (Cond.code y bytes maxL none :: TW) (rmD d' mc' ms') mc' ms' n := ⟨⟨rfl, rfl, by show d' + 1 ≤ R.frames; omega, by show 8 + (maxL + 11) + (64 * d' + 64) ≤ R.locals; omega, code_words hts g2, List.mem_cons_self⟩, hts _ g2, hts _ g1, g3, LkB.n (own := own) (idx := idx) (M := (y, bytes, maxL, none)) ⟨g1, g2, g3, g4, g5⟩, hts _ k1⟩
  refine J.callM (a := (Value.ref (ta D b) :: As.map (tv D)).toArray) (st := st) (va_runIN (own := own) (As := As.map (tv D)) (b := ta D b) (rest := st.map (tv D)) ⟨hx, hby, hml, hown, hts⟩ (hM.met hq) ⟨cn, k3, hts _ k2⟩ ⟨PcM.blind, fun U hU hW => ⟨rfl, by rw [hU]; exact hR, hF.moved hW⟩⟩ rfl (by rw [List.length_map]; exact hn) (by show lsA.size = nL; exact hL.2.1) rfl ?_ dd ⟨by omega, by omega⟩) hz hl hL kret
  rw [map_cat]
  show 2 * 0 + _ ≤ 8
  omega
theorem r_callSU (hX : OK X D cc own nL) (hroom : Room2 X l0 D d mc ms) {M : MD} {idx n b ci z : Nat} {r : vw_C} {As : List Value} (hM : Con l0 D M d' (.ref b :: As) mc' ms' G I L P) (hq : Quiet P) (lk : LkSU own idx M n) (hb : b < G.1) (hsh : G.2.1 b = (ci, z)) (hc : ci < 20) (hr : vwCl[ci]? = some r) (dd : decode cc pc = .ok (.invokespecial idx, 3)) (hn : As.length = n) (hs : stk = As.reverse ++ .ref b :: st) (hcat : (st.map fun v => v.category).sum ≤ 8) (hd : d' + 1 ≤ d) (h1 : c + mc' ≤ mc) (h2 : w + ms' ≤ ms)
    (kret : ∀ v G' I' L', P (.inl v) G' I' L' → J X D nL (c + mc') (w + ms') G' I' L' (pc + 3) ls (v.toList ++ st)) : J X D nL c w G I L pc ls stk := by
  obtain ⟨p, l, e, R, s, m, args, below, meth, c0, Q⟩ := X
  intro H locs lsA hR hz hl hL
  subst hs
  obtain ⟨k1, k2, k3, k5, k6, g1, g2, g3, g4, g5⟩ := lk
  obtain ⟨hx, hby, hml, hown, hts, hF, -, hsz, h0⟩ := id hX
  obtain ⟨rfl, R1, R2, R3, R4, R5⟩ := id hroom
  rw [map_call]
  have cs : va_CS R s args own idx M.1 M.2.1 M.2.2.1 M.2.2.2 (Cond.code M.1 M.2.1 M.2.2.1 M.2.2.2 :: TW) (rmD d' mc' ms') mc' ms' n := ⟨⟨rfl, rfl, by show d' + 1 ≤ R.frames; omega, by show 8 + (M.2.2.1 + 11) + (64 * d' + 64) ≤ R.locals; omega, code_words hts g2, List.mem_cons_self⟩, hts _ k1, hts _ k2, hts _ k3, hts _ k5, hts _ g1, hts _ g2, k6, LkB.n (own := own) (idx := idx) (M := M) ⟨g1, g2, g3, g4, g5⟩⟩
  have hat := (hF.1.1 ci _ hr).2
  refine J.callM (a := (Value.ref (ta D b) :: As.map (tv D)).toArray) (st := st) (va_runSU (C := r.1) hat (own := own) (As := As.map (tv D)) (b := ta D b) (rest := st.map (tv D)) ⟨hx, hby, hml, hown, hts⟩ (hM.met hq) cs ⟨PcM.blind, RC.cell hF h0 hsz hR (Or.inl ⟨hb, ci, z, r, hsh, hc, hr, rfl⟩), fun U hU hW => ⟨rfl, by rw [hU]; exact hR, hF.moved hW⟩⟩ rfl (by rw [List.length_map]; exact hn) (by show lsA.size = nL; exact hL.2.1) rfl ?_ dd ⟨by omega, by omega⟩) hz hl hL kret
  rw [map_cat]
  show 2 * 0 + _ ≤ 8
  omega
theorem r_callU (hX : OK X D cc own nL) (hroom : Room2 X l0 D d mc ms) {M : MD} {idx n b : Nat} {C owner : String} {x : MethodName} {As : List Value} (hM : Con l0 D M d' (.ref b :: As) mc' ms' G I L P) (hq : Quiet P) (lk : LkU own idx C owner x M n) (hrc : RC G C b) (dd : decode cc pc = .ok (.invokevirtual idx, 3)) (hn : As.length = n) (hs : stk = As.reverse ++ .ref b :: st) (hcat : (st.map fun v => v.category).sum ≤ 8) (hd : d' + 1 ≤ d) (h1 : c + mc' ≤ mc) (h2 : w + ms' ≤ ms)
    (kret : ∀ v G' I' L', P (.inl v) G' I' L' → J X D nL (c + mc') (w + ms') G' I' L' (pc + 3) ls (v.toList ++ st)) : J X D nL c w G I L pc ls stk := by
  obtain ⟨p, l, e, R, s, m, args, below, meth, c0, Q⟩ := X
  intro H locs lsA hR hz hl hL
  subst hs
  obtain ⟨y, bytes, maxL, ret⟩ := M
  obtain ⟨k1, k2, k3, k5, k6, g1, g2, g3, g4, g5⟩ := lk
  dsimp only at k6
  subst k6
  obtain ⟨hx, hby, hml, hown, hts, hF, -, hsz, h0⟩ := id hX
  obtain ⟨rfl, R1, R2, R3, R4, R5⟩ := id hroom
  rw [map_call]
  have hg5 : maxL ≤ 40 := g5
  have cu : va_CU R s args own C owner idx x ⟨owner, x.name, x.desc⟩ bytes maxL ret (Cond.code ⟨owner, x.name, x.desc⟩ bytes maxL ret :: TW) (rmD d' mc' ms') mc' ms' n := ⟨⟨rfl, rfl, by show d' + 1 ≤ R.frames; omega, by show 8 + (maxL + 11) + (64 * d' + 64) ≤ R.locals; omega, code_words hts g2, List.mem_cons_self⟩, hts _ g2, hts _ g1, g3, LkB.n (own := own) (idx := idx) (M := (⟨owner, x.name, x.desc⟩, bytes, maxL, ret)) ⟨g1, g2, g3, g4, g5⟩, hts _ k1, hts _ k2, va_Decl.of (hts _ k5) (hts _ g2), hts _ k3, hts _ k5⟩
  refine J.callM (a := (Value.ref (ta D b) :: As.map (tv D)).toArray) (st := st) (va_runU (own := own) (As := As.map (tv D)) (b := ta D b) (rest := st.map (tv D)) ⟨hx, hby, hml, hown, hts⟩ (hM.met hq) cu ⟨PcM.blind, RC.cell hF h0 hsz hR hrc, fun U hU hW => ⟨rfl, by rw [hU]; exact hR, hF.moved hW⟩⟩ rfl (by rw [List.length_map]; exact hn) (by show lsA.size = nL; exact hL.2.1) rfl ?_ dd ⟨by omega, by omega⟩) hz hl hL kret
  rw [map_cat]
  show 2 * 0 + _ ≤ 8
  omega
theorem r_callSN (hX : OK X D cc own nL) (hroom : Room2 X l0 D d mc ms) {M : MD} {idx n : Nat} {host : String} {As : List Value} (hM : Con l0 D M d' As mc' ms' G I L P) (hq : Quiet P) (lk : LkSN own idx M host n) (dd : decode cc pc = .ok (.invokestatic idx, 3)) (hn : As.length = n) (hs : stk = As.reverse ++ st) (hcat : (st.map fun v => v.category).sum ≤ 8) (hd : d' + 1 ≤ d) (h1 : c + mc' ≤ mc) (h2 : w + ms' ≤ ms)
    (kret : ∀ v G' I' L', P (.inl v) G' I' L' → J X D nL (c + mc') (w + ms') G' I' L' (pc + 3) ls (v.toList ++ st)) : J X D nL c w G I L pc ls stk := by
  obtain ⟨p, l, e, R, s, m, args, below, meth, c0, Q⟩ := X
  intro H locs lsA hR hz hl hL
  subst hs
  obtain ⟨k1, k2, g1, g2, g3, g4, g5⟩ := lk
  obtain ⟨hx, hby, hml, hown, hts, hF, -, hsz, h0⟩ := id hX
  obtain ⟨rfl, R1, R2, R3, R4, R5⟩ := id hroom
  have hst : (As.reverse ++ st).map (tv D) = (As.map (tv D)).reverse ++ st.map (tv D) := by
    rw [List.map_append, List.map_reverse]
  rw [hst]
  have cn : va_CN R s args own idx M.1 host M.2.1 M.2.2.1 M.2.2.2 (Cond.code M.1 M.2.1 M.2.2.1 M.2.2.2 :: TW) (rmD d' mc' ms') mc' ms' n := ⟨⟨rfl, rfl, by show d' + 1 ≤ R.frames; omega, by show 8 + (M.2.2.1 + 11) + (64 * d' + 64) ≤ R.locals; omega, code_words hts g2, List.mem_cons_self⟩, hts _ g2, hts _ g1, g3, LkB.n (own := own) (idx := idx) (M := M) ⟨g1, g2, g3, g4, g5⟩, hts _ k1⟩
  refine J.callM (a := (As.map (tv D)).toArray) (st := st) (va_runSN (own := own) (As := As.map (tv D)) (rest := st.map (tv D)) ⟨hx, hby, hml, hown, hts⟩ (hM.met hq) ⟨cn, hts _ k2, trivial⟩ ⟨PcM.blind, fun U hU hW => ⟨rfl, by rw [hU]; exact hR, hF.moved hW⟩⟩ rfl (by rw [List.length_map]; exact hn) (by show lsA.size = nL; exact hL.2.1) rfl ?_ dd ⟨by omega, by omega⟩) hz hl hL kret
  rw [map_cat]
  show 2 * 0 + _ ≤ 8
  omega
/-- new Object's own constructor, from a constructor -/
theorem r_objInit (hX : OK X D cc own nL) (hroom : Room2 X l0 D d mc ms) {idx b : Nat} (g1 : Cond.methodLink own idx Lib.objectInit ∈ TW) (g2 : Cond.instanceMethod Lib.objectInit ∈ TW) (g3 : Cond.code Lib.objectInit ⟨#[0xb1]⟩ 1 none ∈ TW) (dd : decode cc pc = .ok (.invokespecial idx, 3)) (hcat : (st.map fun v => v.category).sum ≤ 8) (hd : 1 ≤ d) (k : J X D nL c w G I L (pc + 3) ls st) : J X D nL c w G I L pc ls (.ref b :: st) := by
  obtain ⟨p, l, e, R, s, m, args, below, meth, c0, Q⟩ := X
  intro H locs lsA hR hz hl hL
  obtain ⟨hx, hby, hml, hown, hts, hF, -, hsz, h0⟩ := id hX
  obtain ⟨-, R1, R2, R3, R4, R5⟩ := id hroom
  have hc2 := map_cat (D := D) st
  refine W.objInit hx hby hown (hts _ g1) (hts _ g2) (hts _ g3) rfl (by show lsA.size = _; rw [hml]; exact hL.2.1) rfl dd (by omega) ?_ (k H locs lsA hR hz hl hL)
  rw [map_cat]
  show 2 * 0 + _ + 12 ≤ R.locals
  omega
theorem r_min (hX : OK X D cc own nL) (hroom : Room2 X l0 D d mc ms) {idx : Nat} {x y : Int32} (g1 : Cond.methodLink own idx Lib.Math.min.name ∈ TW) (g2 : Cond.static Lib.Math.min.name ∈ TW) (g3 : Cond.initialized "java/lang/Math" ∈ TW) (g4 : Cond.code Lib.Math.min.name Lib.Math.min.code 2 (some .int) ∈ TW) (dd : decode cc pc = .ok (.invokestatic idx, 3)) (hcat : (st.map fun v => v.category).sum ≤ 8) (hd : 1 ≤ d) (h1 : c ≤ mc) (h2 : w ≤ ms) (k : J X D nL c w G I L (pc + 3) ls (.int (if y < x then y else x) :: st)) : J X D nL c w G I L pc ls (.int y :: .int x :: st) := by
  obtain ⟨p, l, e, R, s, m, args, below, meth, c0, Q⟩ := X
  intro H locs lsA hR hz hl hL
  obtain ⟨hx, hby, hml, hown, hts, hF, -, hsz, h0⟩ := id hX
  obtain ⟨-, R1, R2, R3, R4, R5⟩ := id hroom
  have hc2 := map_cat (D := D) st
  exact va_mmin hx hby (by rw [hml]; exact hL.2.1.symm) hown (hts _ g1) (hts _ g2) (hts _ g3) (hts _ g4) (by omega) (by omega) (by omega) (by omega) dd (k H locs lsA hR hz hl hL)
theorem r_max (hX : OK X D cc own nL) (hroom : Room2 X l0 D d mc ms) {idx : Nat} {x y : Int32} (g1 : Cond.methodLink own idx Lib.Math.max.name ∈ TW) (g2 : Cond.static Lib.Math.max.name ∈ TW) (g3 : Cond.initialized "java/lang/Math" ∈ TW) (g4 : Cond.code Lib.Math.max.name Lib.Math.max.code 2 (some .int) ∈ TW) (dd : decode cc pc = .ok (.invokestatic idx, 3)) (hcat : (st.map fun v => v.category).sum ≤ 8) (hd : 1 ≤ d) (h1 : c ≤ mc) (h2 : w ≤ ms) (k : J X D nL c w G I L (pc + 3) ls (.int (if x < y then y else x) :: st)) : J X D nL c w G I L pc ls (.int y :: .int x :: st) := by
  obtain ⟨p, l, e, R, s, m, args, below, meth, c0, Q⟩ := X
  intro H locs lsA hR hz hl hL
  obtain ⟨hx, hby, hml, hown, hts, hF, -, hsz, h0⟩ := id hX
  obtain ⟨-, R1, R2, R3, R4, R5⟩ := id hroom
  have hc2 := map_cat (D := D) st
  exact va_mmax hx hby (by rw [hml]; exact hL.2.1.symm) hown (hts _ g1) (hts _ g2) (hts _ g3) (hts _ g4) (by omega) (by omega) (by omega) (by omega) dd (k H locs lsA hR hz hl hL)
end Call2
