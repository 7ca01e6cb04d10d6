/-! ===== contracts of methods over the abstract memory; calls, returns, throws ===== -/
abbrev MD : Type := MethodName × ByteArray × Nat × Option FieldType
def QcP (D : DT) (P : Res → GT → IT → LT → Prop) : Array Value → State → Outcome → State → Prop := fun _ st o t => ∃ (v : Option Value) (G : GT) (I : IT) (L : LT), o = .returned (v.map (tv D)) ∧ P (.inl v) G I L ∧ Rel D G I L t.heap ∧ st.heap.size ≤ t.heap.size
/-- as Rel, without a bound -/
def RelX (D : DT) (G : GT) (I : IT) (L : LT) (H : Heap) : Prop := H.size = D.1 + G.1 ∧ (∀ q, q < D.1 → H[q]? = D.2.1[q]?) ∧ ∀ k, k < G.1 → CR D G I L H k
theorem Rel.X {D : DT} {G : GT} {I : IT} {L : LT} {H : Heap} (h : Rel D G I L H) : RelX D G I L H := ⟨h.1, h.2.2⟩
def XCP (D : DT) (P : Res → GT → IT → LT → Prop) : String → State → State → Prop := fun E st t => ∃ (G : GT) (I : IT) (L : LT), P (.inr E) G I L ∧ RelX D G I L t.heap ∧ st.heap.size ≤ t.heap.size
def PcM (D : DT) (av : List Value) (G : GT) (I : IT) (L : LT) : Array Value → State → Prop := va_Pc (av.map (tv D)) (fun U => Rel D G I L U.heap ∧ Facts D U)
def Con (l : Launch) (D : DT) (M : MD) (d : Nat) (av : List Value) (mc ms : Nat) (G : GT) (I : IT) (L : LT) (P : Res → GT → IT → LT → Prop) : Prop :=
  vx_Met l M.1 (Cond.code M.1 M.2.1 M.2.2.1 M.2.2.2 :: TW) (rmD d mc ms) (PcM D av G I L) (QcP D P) (XCP D P) mc ms (Ad D)
theorem PcM.blind {D : DT} {av : List Value} {G : GT} {I : IT} {L : LT} : FrameBlind (PcM D av G I L) := fun a U g mk h => ⟨h.1, h.2.1, Facts.calling h.2.2⟩
/-- what a method's end owes -/
def RT (X : XT) (l0 : Launch) (D : DT) (ret : Option FieldType) (P : Res → GT → IT → LT → Prop) (d mc ms : Nat) : Prop := match X with
  | (p, l, e, R, s, m, args, below, meth, c, Q) => Q = vx_MQ below (QcP D P) (XCP D P) args s mc ms (Ad D) ∧ meth.sig.returnType = ret ∧ Room2 X l0 D d mc ms ∧ ∀ x ∈ c.exceptionTable.toList, False
theorem RT.room {X : XT} {l0 : Launch} {D : DT} {ret : Option FieldType} {P : Res → GT → IT → LT → Prop} {d mc ms : Nat} (h : RT X l0 D ret P d mc ms) : Room2 X l0 D d mc ms := by
  obtain ⟨p, l, e, R, s, m, args, below, meth, c0, Q⟩ := X
  exact h.2.2.1
def ent (av : List Value) (n : Nat) : List Value := av ++ List.replicate (n - av.length) (.retAddr 0)
theorem lprs_pad {D : DT} : ∀ (av : List Value) (i n : Nat), (∀ v ∈ av, v.category = 1) → ∀ q ∈ lprs D i (av ++ List.replicate n (.retAddr 0)), q ∈ lv_args i (av.map (tv D)) := by
  intro av
  induction av with
  | nil =>
    intro i n _ q hq
    obtain ⟨k, v, h1, h2, -⟩ := lprs_of _ _ _ hq
    simp only [List.nil_append, List.getElem?_replicate] at h1
    split at h1
    · exact absurd (Option.some.inj h1).symm (h2 0)
    · cases h1
  | cons a av ih =>
    intro i n hc q hq
    have ha := hc a List.mem_cons_self
    have h1 := ih (i + 1) n (fun v hv => hc v (List.mem_cons_of_mem _ hv)) q
    have e : lv_args i ((a :: av).map (tv D)) = (i, tv D a) :: lv_args (i + 1) (av.map (tv D)) := by
      simp only [List.map_cons, lv_args]
      rw [if_neg (by rw [tv_cat, ha]; decide)]
    rw [e]
    cases a <;> first | exact List.mem_cons_of_mem _ (h1 hq) | (rcases List.mem_cons.mp hq with h | h; (rw [h]; exact List.mem_cons_self); exact List.mem_cons_of_mem _ (h1 h))
theorem lg_sl_len {D : DT} : ∀ (av : List Value), (∀ v ∈ av, v.category = 1) → (lg_sl (av.map (tv D))).length = av.length := by
  intro av
  induction av with
  | nil => intro _; rfl
  | cons a av ih =>
    intro hc
    have ha := hc a List.mem_cons_self
    have h1 := ih (fun v hv => hc v (List.mem_cons_of_mem _ hv))
    cases a <;> first | (cases ha; done) | (simp [lg_sl, tv, Value.category] at h1 ⊢; omega)
theorem Con.of {l : Launch} {D : DT} {M : MD} {d mc ms : Nat} {av : List Value} {G : GT} {I : IT} {L : LT} {P : Res → GT → IT → LT → Prop} (hy : plainName M.1.cls = true) (hc : ∀ v ∈ av, v.category = 1) (hn : av.length ≤ M.2.2.1) (hb : mc = 0 ∨ G.1 + mc < 1000000)
    (body : ∀ X : XT, OK X D M.2.1 M.1.cls M.2.2.1 → RT X l D M.2.2.2 P d mc ms → (M.1.name = "<init>" → InInit X) → J X D M.2.2.1 0 0 G I L 0 (ent av M.2.2.1) []) : Con l D M d av mc ms G I L P := by
  refine vx_ofW (cc := M.2.1) (maxL := M.2.2.1) (ret := M.2.2.2) hy rfl ?_
  intro p e s m args below meth c s₁ B hml htab hv
  obtain ⟨rfl, hR, hF⟩ := hv
  have hts := atoms_spec (ws := Cond.code M.1 M.2.1 M.2.2.1 M.2.2.2 :: TW) B.pre
  have hown : s.vm.findClass M.1.cls = some m.cls := findClass_of_methodNamed B.named
  have hl := lv_entry (av.map (tv D)) (n := M.2.2.1) (by rw [lg_sl_len av hc]; exact hn)
  rw [lg_entry_eq]
  generalize (lg_sl (av.map (tv D)) ++ List.replicate (M.2.2.1 - (lg_sl (av.map (tv D))).length) Slot.unset).toArray = ls at hl ⊢
  have hX : OK (p, l, e, (headSpec (Cond.code M.1 M.2.1 M.2.2.1 M.2.2.2 :: TW) (rmD d mc ms)).room, s, m, (av.map (tv D)).toArray, below, meth, c, vx_MQ below (QcP D P) (XCP D P) (av.map (tv D)).toArray s mc ms (Ad D)) D M.2.1 M.1.cls M.2.2.1 :=
    ⟨B.exec, B.bytes, hml, hown, fun w hw => hts w (List.mem_cons_of_mem _ hw), hF, B.notSynchronized, by rw [hR.1]; exact Nat.le_add_right _ _, hR.2.2.1⟩
  have h := body _ hX ⟨rfl, B.returns, ⟨rfl, Nat.le_refl _, Nat.le_refl _, Nat.le_refl _, Nat.le_refl _, by
    show s.heap.size + mc < D.1 + 1000000
    have h1 := hR.1
    have h2 := hR.2.1
    rcases hb with rfl | hb <;> omega⟩, htab⟩ (fun hi => (name_of_methodNamed B.named B.method).1.trans hi)
  exact h s.heap [] ls hR (Nat.le_refl _) (fun q h => by cases h) ⟨by simp [ent]; omega, lv_mono hl (lprs_pad av 0 _ hc)⟩
section Ret
variable {X : XT} {D : DT} {cc : ByteArray} {own : String} {nL c w : Nat} {G : GT} {I : IT} {L : LT} {pc : Nat} {ls st : List Value} {l0 : Launch} {P : Res → GT → IT → LT → Prop} {d mc ms : Nat}
theorem r_vret (hX : OK X D cc own nL) (hT : RT X l0 D none P d mc ms) (dd : decode cc pc = .ok (.return_, 1)) (h : P (.inl none) G I L) (h1 : c ≤ mc := by decide) (h2 : w ≤ ms := by decide) : J X D nL c w G I L pc ls [] := by
  obtain ⟨p, l, e, R, s, m, args, below, meth, c0, Q⟩ := X
  intro H locs lsA hR hz hl hL
  obtain ⟨hQ, hr, -⟩ := hT
  subst hQ
  have hlocks := hX.2.2.2.2.2.2.1
  exact W.widen (k := mc) (n := ms) h1 h2 (vx_ret (W.vret hX.1 hX.2.1 hr (fun t ht hW => ⟨none, G, I, L, rfl, h, by rw [ht]; exact hR, by rw [ht]; exact hz⟩) hl dd hlocks))
theorem r_iret (hX : OK X D cc own nL) {ty : FieldType} (hT : RT X l0 D (some ty) P d mc ms) {v : Int32} (dd : decode cc pc = .ok (.ireturn, 1)) (hn : narrow ty (.int v) = .int v) (h : P (.inl (some (.int v))) G I L) (h1 : c ≤ mc := by decide) (h2 : w ≤ ms := by decide) : J X D nL c w G I L pc ls [.int v] := by
  obtain ⟨p, l, e, R, s, m, args, below, meth, c0, Q⟩ := X
  intro H locs lsA hR hz hl hL
  obtain ⟨hQ, hr, -⟩ := hT
  subst hQ
  have hlocks := hX.2.2.2.2.2.2.1
  exact W.widen (k := mc) (n := ms) h1 h2 (vx_ret (W.zret hX.1 hX.2.1 hr hn (fun t ht hW => ⟨some (.int v), G, I, L, rfl, h, by rw [ht]; exact hR, by rw [ht]; exact hz⟩) hl dd hlocks))
theorem r_fret (hX : OK X D cc own nL) (hT : RT X l0 D (some .float) P d mc ms) {v : UInt32} (dd : decode cc pc = .ok (.freturn, 1)) (h : P (.inl (some (.float v))) G I L) (h1 : c ≤ mc := by decide) (h2 : w ≤ ms := by decide) : J X D nL c w G I L pc ls [.float v] := by
  obtain ⟨p, l, e, R, s, m, args, below, meth, c0, Q⟩ := X
  intro H locs lsA hR hz hl hL
  obtain ⟨hQ, hr, -⟩ := hT
  subst hQ
  have hlocks := hX.2.2.2.2.2.2.1
  exact W.widen (k := mc) (n := ms) h1 h2 (vx_ret (W.fret hX.1 hX.2.1 hr (fun t ht hW => ⟨some (.float v), G, I, L, rfl, h, by rw [ht]; exact hR, by rw [ht]; exact hz⟩) hl dd hlocks))
theorem r_dret (hX : OK X D cc own nL) (hT : RT X l0 D (some .double) P d mc ms) {v : UInt64} (dd : decode cc pc = .ok (.dreturn, 1)) (h : P (.inl (some (.double v))) G I L) (h1 : c ≤ mc := by decide) (h2 : w ≤ ms := by decide) : J X D nL c w G I L pc ls [.double v] := by
  obtain ⟨p, l, e, R, s, m, args, below, meth, c0, Q⟩ := X
  intro H locs lsA hR hz hl hL
  obtain ⟨hQ, hr, -⟩ := hT
  subst hQ
  have hlocks := hX.2.2.2.2.2.2.1
  exact W.widen (k := mc) (n := ms) h1 h2 (vx_ret (W.dret hX.1 hX.2.1 hr (fun t ht hW => ⟨some (.double v), G, I, L, rfl, h, by rw [ht]; exact hR, by rw [ht]; exact hz⟩) hl dd hlocks))
theorem r_aret (hX : OK X D cc own nL) {ty : FieldType} (hT : RT X l0 D (some ty) P d mc ms) {b : Nat} (dd : decode cc pc = .ok (.areturn, 1)) (hty : (∃ n, ty = .object n) ∨ ∃ t, ty = .array t) (h : P (.inl (some (.ref b))) G I L) (h1 : c ≤ mc := by decide) (h2 : w ≤ ms := by decide) : J X D nL c w G I L pc ls [.ref b] := by
  obtain ⟨p, l, e, R, s, m, args, below, meth, c0, Q⟩ := X
  intro H locs lsA hR hz hl hL
  obtain ⟨hQ, hr, -⟩ := hT
  subst hQ
  have hlocks := hX.2.2.2.2.2.2.1
  exact W.widen (k := mc) (n := ms) h1 h2 (vx_ret (W.aret hX.1 hX.2.1 hr hty (Or.inr ⟨_, rfl⟩) (fun t ht hW => ⟨some (.ref b), G, I, L, rfl, h, by rw [ht]; exact hR, by rw [ht]; exact hz⟩) hl dd hlocks))
end Ret
/-- the frame at pc, with an exception of class E thrown over it -/
def JT (X : XT) (D : DT) (nL : Nat) (c w : Nat) (G : GT) (I : IT) (L : LT) (pc : Nat) (ls : List Value) (E : String) : Prop := match X with
  | (p, l, e, R, s, m, args, below, meth, c0, Q) => ∀ (H : Heap) (locs : List Loc) (lsA : Array Slot) (q : Nat) (ce : Cell) (rest : List Value), Rel D G I L H → s.heap.size ≤ H.size → (∀ q ∈ locs, D.1 ≤ q.base) → lsR D nL lsA ls → H[q]? = some ce → ce.vm = .none → s.vm.findClass E = some ce.cls → vx_W p l e R s m args below meth c0 H locs c w Q (F0 m pc lsA rest) q
/-- a receiver of class C -/
def RC (G : GT) (C : String) (b : Nat) : Prop := (b < G.1 ∧ ∃ ci z r, G.2.1 b = (ci, z) ∧ ci < 20 ∧ vwCl[ci]? = some r ∧ r.1 = C) ∨ ∃ code, b = 1000000 + code ∧ (C, code) ∈ cO
theorem RC.cell {D : DT} {G : GT} {I : IT} {L : LT} {H : Heap} {s : State} {C : String} {b : Nat} (hF : Facts D s) (h0 : ∀ q, q < D.1 → s.heap[q]? = D.2.1[q]?) (hD : D.1 ≤ s.heap.size) (hR : Rel D G I L H) (h : RC G C b) : ∃ cellB : Cell, H[ta D b]? = some cellB ∧ cellB.vm.isStatics = false ∧ s.vm.findClass C = some cellB.cls := by
  rcases h with ⟨hb, ci, z, r, h1, h2, h3, rfl⟩ | ⟨code, rfl, h⟩
  · obtain ⟨r', h4, cell, g1, g2, g3, -⟩ := (hR.2.2.2 b hb).ob h1 h2
    cases h3.symm.trans h4
    exact ⟨cell, by rw [hR.ta hb]; exact g1, by rw [g3]; rfl, by rw [g2]; exact (hF.1.1 ci _ h3).2.1⟩
  · obtain ⟨cell, g1, g2, g3, g4⟩ := hF.2.2.2.1 _ h
    refine ⟨cell, ?_, g2, g3⟩
    rw [hR.2.2.1 _ (Nat.lt_of_not_le g4)]
    exact g1
def LkB (own : String) (idx : Nat) (M : MD) (n : Nat) : Prop := Cond.initialized M.1.cls ∈ TW ∧ Cond.code M.1 M.2.1 M.2.2.1 M.2.2.2 ∈ TW ∧ (M.1.cls ≠ "java/lang/invoke/MethodHandle" ∧ M.1.cls ≠ "java/lang/invoke/VarHandle") ∧ (parseMethodDescriptor M.1.desc).map (fun d => d.parameters.length) = some n ∧ M.2.2.1 ≤ 40
def LkV (own : String) (idx : Nat) (C : String) (M : MD) (n : Nat) : Prop := Cond.methodLink own idx M.1 ∈ TW ∧ Cond.instanceMethod M.1 ∈ TW ∧ Cond.selects C M.1 M.1 ∈ TW ∧ LkB own idx M n
def LkS (own : String) (idx : Nat) (M : MD) (n : Nat) : Prop := Cond.methodLink own idx M.1 ∈ TW ∧ Cond.static M.1 ∈ TW ∧ LkB own idx M n
theorem LkB.n {own : String} {idx n : Nat} {M : MD} (h : LkB own idx M n) : ∀ sig, parseMethodDescriptor M.1.desc = some sig → n = sig.parameters.length := fun sig hs => by
  have h1 := h.2.2.2.1
  rw [hs] at h1
  exact (Option.some.inj h1).symm
theorem map_cat {D : DT} (st : List Value) : ((st.map (tv D)).map fun v => v.category).sum = (st.map fun v => v.category).sum := by
  rw [List.map_map]
  congr 1
  exact List.map_congr_left (fun v _ => tv_cat D v)
theorem LkB.call {p : Program} {l : Launch} {e : Env} {R : Room} {s : State} {m : MethodId} {args : Array Value} {below : List Frame} {meth : Method} {c : Code} {Q : State → Prop} {D : DT} {cc : ByteArray} {own : String} {nL idx n d mc ms d' mc' ms' : Nat} {l0 : Launch} {M : MD} (hX : OK (p, l, e, R, s, m, args, below, meth, c, Q) D cc own nL) (hroom : Room2 (p, l, e, R, s, m, args, below, meth, c, Q) l0 D d mc ms) (h : LkB own idx M n) (hlink : Cond.methodLink own idx M.1 ∈ TW) (hd : d' + 1 ≤ d) :
    CallB R s args own idx M.1 M.2.1 M.2.2.1 M.2.2.2 (Cond.code M.1 M.2.1 M.2.2.1 M.2.2.2 :: TW) (rmD d' mc' ms') mc' ms' n := by
  obtain ⟨hx, hby, -, hown, hts, hF, -, hsz, h0⟩ := hX
  obtain ⟨-, R1, R2, -⟩ := hroom
  obtain ⟨g1, g2, g3, g4, g5⟩ := id h
  refine ⟨rfl, rfl, ?_, ?_, ?_, List.mem_cons_self, hts _ g2, hts _ g1, g3, h.n, hts _ hlink⟩
  · show d' + 1 ≤ R.frames
    omega
  · show 8 + (M.2.2.1 + 11) + (64 * d' + 64) ≤ R.locals
    omega
  · intro w hw a' U hW
    rcases List.mem_cons.mp hw with rfl | hw
    · exact TW_warm hW g2 (hts _ g2)
    · exact TW_warm hW hw (hts _ hw)
/-- behind a call -/
theorem J.call {p : Program} {l : Launch} {e : Env} {R : Room} {s : State} {m : MethodId} {args : Array Value} {below : List Frame} {meth : Method} {c0 : Code} {Q : State → Prop} {D : DT} {nL c w mc ms : Nat} {pc : Nat} {ls st : List Value} {P : Res → GT → IT → LT → Prop} {a : Array Value} {H : Heap} {locs : List Loc} {lsA : Array Slot} {st0 : List Value}
    (hrun : vx_Run p l e R s m args below meth c0 H locs c w mc ms (F0 m pc lsA st0) (st.map (tv D)) (QcP D P a) (XCP D P) (Ad D)) (hz : s.heap.size ≤ H.size) (hl : ∀ q ∈ locs, D.1 ≤ q.base) (hL : lsR D nL lsA ls) (h5 : c + mc ≤ R.cells) (h6 : s.heap.size + R.cells < D.1 + 1000000)
    (kret : ∀ v G' I' L', P (.inl v) G' I' L' → J (p, l, e, R, s, m, args, below, meth, c0, Q) D nL (c + mc) (w + ms) G' I' L' (pc + 3) ls (v.toList ++ st)) (kthr : ∀ E G' I' L', P (.inr E) G' I' L' → JT (p, l, e, R, s, m, args, below, meth, c0, Q) D nL (c + mc) (w + ms) G' I' L' pc ls E) : W p l e R s m args below meth c0 H locs c w Q (F0 m pc lsA st0) := by
  intro T hT X
  have hll : ∀ (L1 : List Loc), (∀ q ∈ L1, Ad D q.base) → ∀ q ∈ locs ++ L1, D.1 ≤ q.base := by
    intro L1 h1 q hq
    rcases List.mem_append.mp hq with h | h
    · exact hl q h
    · exact h1 q h
  rcases hrun T hT X with ⟨v, st₀, t, T', L1, h0, X', hL1, e1, e2, ⟨v', G', I', L', hv, hP, hR', hz'⟩, stp⟩ | ⟨q, st₀, t, T', L1, E, ce, h0, X', hL1, e1, e2, ⟨G', I', L', hP, hR', hz'⟩, hq, hce, hcl, stp⟩
  · cases hv
    rw [h0] at hz'
    have hk := kret v' G' I' L' hP T'.heap (locs ++ L1) lsA (by rw [e1]; exact hR') (by rw [e1]; omega) (hll L1 hL1) hL
    rw [List.map_append] at hk
    have ev : (v'.toList.map (tv D)) = (v'.map (tv D)).toList := by cases v' <;> rfl
    rw [ev] at hk
    obtain ⟨t2, a1, b1⟩ := hk T' rfl X'
    exact ⟨t2, stp t2 a1, b1⟩
  · rw [h0] at hz'
    obtain ⟨t2, a1, b1⟩ := kthr E G' I' L' hP T'.heap (locs ++ L1) lsA q ce (st.map (tv D)) (by
      have z1 := X'.heapSize
      have z2 := hR'.1
      rw [e1] at z1 ⊢
      exact ⟨hR'.1, by omega, hR'.2⟩) (by rw [e1]; omega) (hll L1 hL1) hL (by rw [e1]; exact hq) hce hcl T' rfl X'
    exact ⟨t2, stp.trans a1, b1⟩
section Call
variable {X : XT} {D : DT} {cc : ByteArray} {own : String} {nL c w : Nat} {G : GT} {I : IT} {L : LT} {pc : Nat} {ls st stk : List Value} {l0 : Launch} {P : Res → GT → IT → LT → Prop} {d mc ms d' mc' ms' : Nat}
theorem r_callV (hX : OK X D cc own nL) (hroom : Room2 X l0 D d mc ms) {M : MD} {idx n b : Nat} {C : String} {As : List Value} (hM : Con l0 D M d' (.ref b :: As) mc' ms' G I L P) (lk : LkV own idx C M n) (hrc : RC G C b) (dd : decode cc pc = .ok (.invokevirtual idx, 3)) (hn : As.length = n) (hs : stk = As.reverse ++ .ref b :: st) (hcat : (st.map fun v => v.category).sum ≤ 8) (hd : d' + 1 ≤ d) (h1 : c + mc' ≤ mc) (h2 : w + ms' ≤ ms)
    (kret : ∀ v G' I' L', P (.inl v) G' I' L' → J X D nL (c + mc') (w + ms') G' I' L' (pc + 3) ls (v.toList ++ st)) (kthr : ∀ E G' I' L', P (.inr E) G' I' L' → JT X D nL (c + mc') (w + ms') G' I' L' pc ls E) : J X D nL c w G I L pc ls stk := by
  obtain ⟨p, l, e, R, s, m, args, below, meth, c0, Q⟩ := X
  intro H locs lsA hR hz hl hL
  subst hs
  obtain ⟨k1, k2, k3, k4⟩ := lk
  have cb := LkB.call (mc' := mc') (ms' := ms') hX hroom k4 k1 hd
  obtain ⟨hx, hby, hml, hown, hts, hF, -, hsz, h0⟩ := id hX
  obtain ⟨rfl, R1, R2, R3, R4, R5⟩ := id hroom
  have hst : (As.reverse ++ .ref b :: st).map (tv D) = (As.map (tv D)).reverse ++ .ref (ta D b) :: st.map (tv D) := by
    rw [List.map_append, List.map_reverse]; rfl
  rw [hst]
  refine J.call (a := (Value.ref (ta D b) :: As.map (tv D)).toArray) (st := st) (vx_runV (own := own) (C := C) (As := As.map (tv D)) (b := ta D b) (rest := st.map (tv D)) ⟨hx, hby, hml, hown, hts⟩ hM ⟨cb, hts _ k2, hts _ k3⟩ ⟨PcM.blind, RC.cell hF h0 hsz hR hrc, fun U hU hW => ⟨rfl, by rw [hU]; exact hR, hF.moved hW⟩⟩ rfl (by rw [List.length_map]; exact hn) (by show lsA.size = nL; exact hL.2.1) rfl ?_ dd ⟨by omega, by omega⟩) hz hl hL (by omega) R5 kret kthr
  rw [map_cat]
  show 2 * 0 + _ ≤ 8
  omega
theorem r_callS (hX : OK X D cc own nL) (hroom : Room2 X l0 D d mc ms) {M : MD} {idx n : Nat} {As : List Value} (hM : Con l0 D M d' As mc' ms' G I L P) (lk : LkS own idx M n) (dd : decode cc pc = .ok (.invokestatic idx, 3)) (hn : As.length = n) (hs : stk = As.reverse ++ st) (hcat : (st.map fun v => v.category).sum ≤ 8) (hd : d' + 1 ≤ d) (h1 : c + mc' ≤ mc) (h2 : w + ms' ≤ ms)
    (kret : ∀ v G' I' L', P (.inl v) G' I' L' → J X D nL (c + mc') (w + ms') G' I' L' (pc + 3) ls (v.toList ++ st)) (kthr : ∀ E G' I' L', P (.inr E) G' I' L' → JT X D nL (c + mc') (w + ms') G' I' L' pc ls E) : J X D nL c w G I L pc ls stk := by
  obtain ⟨p, l, e, R, s, m, args, below, meth, c0, Q⟩ := X
  intro H locs lsA hR hz hl hL
  subst hs
  obtain ⟨k1, k2, k4⟩ := lk
  have cb := LkB.call (mc' := mc') (ms' := ms') hX hroom k4 k1 hd
  obtain ⟨hx, hby, hml, hown, hts, hF, -, hsz, h0⟩ := id hX
  obtain ⟨rfl, R1, R2, R3, R4, R5⟩ := id hroom
  have hst : (As.reverse ++ st).map (tv D) = (As.map (tv D)).reverse ++ st.map (tv D) := by
    rw [List.map_append, List.map_reverse]
  rw [hst]
  refine J.call (a := (As.map (tv D)).toArray) (st := st) (vx_runS (own := own) (As := As.map (tv D)) (rest := st.map (tv D)) ⟨hx, hby, hml, hown, hts⟩ hM ⟨cb, hts _ k2⟩ ⟨PcM.blind, fun U hU hW => ⟨rfl, by rw [hU]; exact hR, hF.moved hW⟩⟩ rfl (by rw [List.length_map]; exact hn) (by show lsA.size = nL; exact hL.2.1) rfl ?_ dd ⟨by omega, by omega⟩) hz hl hL (by omega) R5 kret kthr
  rw [map_cat]
  show 2 * 0 + _ ≤ 8
  omega
/-- not caught here -/
theorem r_out (hX : OK X D cc own nL) {ret : Option FieldType} (hT : RT X l0 D ret P d mc ms) {E : String} (h : P (.inr E) G I L) (h1 : c ≤ mc) (h2 : w ≤ ms) : JT X D nL c w G I L pc ls E := by
  obtain ⟨p, l, e, R, s, m, args, below, meth, c0, Q⟩ := X
  intro H locs lsA q ce rest hR hz hl hL hq hv hcl
  obtain ⟨hQ, hr, -, htab⟩ := hT
  subst hQ
  exact vx_out (fun x hx => (htab x hx).elim) hX.2.2.2.2.2.2.1 hq hv hcl (fun t ht hW => ⟨G, I, L, h, by rw [ht]; exact hR.X, by rw [ht]; exact hz⟩) hl h1 h2
end Call
