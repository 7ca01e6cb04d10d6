/-! ===== the greater of two floats: a row of the machine's own runs it ===== -/
section MxF
abbrev mx (x y : UInt32) : UInt32 := Native.java_lang_Math.nans.pick32 true x y
def mxRow : NativeRow := (NativeRow.find? Native.java_lang_Math.nans.rows "java/lang/Math" "max" "(FF)F").get (by decide +kernel)
set_option maxRecDepth 100000 in
theorem mx_find (p : Program) : NativeRow.find? p.tables.natives "java/lang/Math" "max" "(FF)F" = some mxRow := by cases p <;> rfl
theorem mx_sem {x y : UInt32} (hx : FP.fIsNaN x = false) (hy : FP.fIsNaN y = false) (e : Env) (S : State) : ∃ acts, (mxRow.sem #[.float x, .float y]).run e S = .ok (some (.float (mx x y))) S acts := by
  have h0 : mxRow.sem #[.float x, .float y] = (do
      let r ← if FP.fIsNaN x then anyNaN32 x else if FP.fIsNaN y then anyNaN32 y else Pure.pure (Native.java_lang_Math.nans.pick32 true x y)
      mark "nat.java_lang_Math.max/float"
      Pure.pure (some (.float r))) := rfl
  have h1 : wpRun (mxRow.sem #[.float x, .float y]) (fun v t _ => v = some (.float (mx x y)) ∧ t = S) (fun _ _ _ => False) e S := by
    rw [h0, hx, hy]
    simp [jvm, wpRun]
  have h2 := (wpRun_iff_run _ _ _ _ _).mp h1
  generalize (mxRow.sem #[.float x, .float y]).run e S = out at h2
  cases out with
  | ok v t acts => obtain ⟨rfl, rfl⟩ := h2; exact ⟨acts, rfl⟩
  | ctl z t acts => cases z <;> exact h2.elim
theorem mx_back {l : Launch} {R : Room} {p : Program} {e : Env} {below : List Frame} {s : State} {sargs : Array Value} {len W : Nat} {x y : UInt32} (hcode : (Cond.code yJ9_max_e70c8 cJ9_max_e70c8 2 (some .float)).before sargs s = true) (hfr : 1 ≤ R.frames) (hlo : W + 13 ≤ R.locals) (hx : FP.fIsNaN x = false) (hy : FP.fIsNaN y = false) :
    Jvm.Free.Back l R p e below s sargs yJ9_max_e70c8 len W (fun _ a => a = #[.float x, .float y]) (fun A _ v B => v = some (.float (mx x y)) ∧ B = A) := by
  rintro m meth c A g ig mk a X hg hsize hdg hW hnamed rfl
  obtain ⟨M, cM, hM, hcM, -, hml, -, hlk, -, hsig⟩ := Cond.code_spec hnamed (Cond.tabsOnly_warm (args' := sargs) (T := A.U) X.warmed _ rfl hcode)
  obtain ⟨k, hk, hkn⟩ := className_of_methodNamed hnamed
  obtain ⟨hn, hd⟩ := name_of_methodNamed hnamed hM
  have hin : k.methods[mk.idx]? = some M := by simpa [Vm.method?, hk] using hM
  have hboot : k.loader = none := Vm.bootOf_findClass (findClass_of_methodNamed hnamed) hk
  refine ⟨_, A, X, ⟨rfl, rfl⟩, ?_⟩
  have hfull := X.notFull hsize (vars := 2) hfr (by omega)
  rw [← hml] at hfull
  obtain ⟨g0, hg0⟩ := Option.isSome_iff_exists.mp X.here.top
  obtain ⟨r, hr⟩ := State.topJava?_eq_some.mp hg0
  obtain ⟨mid, hmid⟩ := X.here.above
  have hcur : A.U.cur < A.U.threads.size := State.cur_lt_of_frames hr
  have htop : A.U.setTop g = A.U.setFrames (.java g :: r) := State.setTop_of_frames _ hr
  rw [(doInvoke_java (s := A.U.setTop g) (e := e) (acts := []) (args := #[.float x, .float y]) hM hcM hlk hfull).1]
  have hpush : (A.U.setTop g).pushFrame (.java { method := mk, pc := 0, locals := argsToLocals #[.float x, .float y] cM.maxLocals, stack := [], locked := none }) = A.U.setFrames (.java { method := mk, pc := 0, locals := argsToLocals #[.float x, .float y] cM.maxLocals, stack := [], locked := none } :: .java g :: r) := by
    rw [State.pushFrame, State.frames_setTop _ hr, htop, State.setFrames_setFrames]
  rw [hpush, hml]
  generalize hf : ({ method := mk, pc := 0, locals := argsToLocals #[.float x, .float y] 2, stack := [], locked := none } : JFrame) = f
  have hfr1 : (A.U.setFrames (.java f :: .java g :: r)).frames = .java f :: .java g :: r := State.frames_setFrames _ hcur
  have hpar : M.sig.parameters.length = 2 := by
    have h1 : parseMethodDescriptor "(FF)F" = some { parameters := [.float, .float], returnType := some .float } := by decide +kernel
    have h2 : parseMethodDescriptor "(FF)F" = some M.sig := hsig
    rw [h1] at h2
    rw [← Option.some.inj h2]
    rfl
  have hrow : overridden p.tables e (A.U.setFrames (.java f :: .java g :: r)) f = some mxRow := by
    subst hf
    have hk' : (A.U.setFrames (.java { method := mk, pc := 0, locals := argsToLocals #[.float x, .float y] 2, stack := [], locked := none } :: .java g :: r)).vm.classes[mk.cls]? = some k := hk
    have h3 : overriddenIn.contains k.name = true := by rw [hkn]; decide
    unfold overridden
    simp only [hk', hin, h3, hboot, hkn, hn, hd]
    exact mx_find p
  have hgiven : ∀ φ : Slot → Option Value, (∀ v, φ (.val v) = some v) → ((f.locals.toList.filterMap φ).toArray.extract 0 (argCount (A.U.setFrames (.java f :: .java g :: r)) f.method)) = #[.float x, .float y] := by
    intro φ hφ
    subst hf
    have h4 : 2 ≤ argCount (A.U.setFrames (.java { method := mk, pc := 0, locals := argsToLocals #[.float x, .float y] 2, stack := [], locked := none } :: .java g :: r)) mk := by
      unfold argCount
      have hk' : (A.U.setFrames (.java { method := mk, pc := 0, locals := argsToLocals #[.float x, .float y] 2, stack := [], locked := none } :: .java g :: r)).vm.classes[mk.cls]? = some k := hk
      rw [hk']
      simp only [Option.bind_some, hin, hpar]
      omega
    have h5 : (argsToLocals #[.float x, .float y] 2).toList.filterMap φ = [Value.float x, Value.float y] := by
      show List.filterMap φ [Slot.val (.float x), Slot.val (.float y)] = _
      simp [hφ]
    show ((((argsToLocals #[.float x, .float y] 2).toList.filterMap φ).toArray).extract 0 (argCount _ mk)) = _
    rw [h5]
    generalize argCount _ _ = N at h4
    simp [List.take_of_length_le (show [Value.float x, Value.float y].length ≤ N from h4)]
  have hcg : ∀ F : List Frame, (A.U.setFrames F).code? g.method = some c := by
    intro F
    have := X.here.code
    rw [hg, State.code?_eq]
    rw [State.code?_eq] at this
    simpa [State.setFrames] using this
  have hstep : (stepThread p.tables e (A.U.setFrames (.java f :: .java g :: r))).1 = A.U.setTop { g with pc := g.pc + len, stack := .float (mx x y) :: g.stack } := by
    unfold stepThread
    simp only [hfr1, hrow]
    rw [hgiven _ (fun _ => rfl)]
    have hlo : f.locked = none := by rw [← hf]
    have hme : f.method = mk := by rw [← hf]
    rw [hlo, hme]
    obtain ⟨acts, hrun⟩ := mx_sem hx hy e (A.U.setFrames (.native { method := mk, args := #[.float x, .float y] } :: .java g :: r))
    have hrun' : (mxRow.sem ({ method := mk, args := #[.float x, .float y], locked := none } : NFrame).args).run e (A.U.setFrames (.java f :: .java g :: r) |>.setFrames (.native { method := mk, args := #[.float x, .float y], locked := none } :: .java g :: r)) = .ok (some (.float (mx x y))) (A.U.setFrames (.native { method := mk, args := #[.float x, .float y] } :: .java g :: r)) acts := by
      rw [State.setFrames_setFrames]; exact hrun
    rw [hrun']
    unfold afterNative
    refine (doReturn_native (f := { method := mk, args := #[.float x, .float y] }) (below := .java g :: r) (fs := .java { g with pc := g.pc + len, stack := .float (mx x y) :: g.stack } :: r) (State.frames_setFrames _ hcur) rfl ?_).trans ?_
    · simp [handOver, hcg, hdg, Except.toOption]
    · rw [State.setFrames_setFrames, ← State.setTop_of_frames _ hr]
  refine Steps.head ⟨X.here.running, by simpa using X.here.runnable, by simpa using X.here.alone⟩ ⟨.java f :: .java g :: mid, ?_, by simp, by simp⟩ ?_
  · rw [hfr1]
    rw [hr] at hmid
    simp at hmid
    simp [hmid]
  · rw [hstep]
    exact Steps.refl _
end MxF
section MxJ
variable {X : XT} {D : DT} {cc : ByteArray} {own : String} {nL c w : Nat} {G : GT} {I : IT} {L : LT} {pc : Nat} {ls st : List Value} {l0 : Launch} {d mc ms : Nat}
theorem r_maxF (hX : OK X D cc own nL) (hroom : Room2 X l0 D d mc ms) {idx : Nat} {x y : UInt32} (g1 : Cond.methodLink own idx yJ9_max_e70c8 ∈ TW) (g2 : Cond.static yJ9_max_e70c8 ∈ TW) (g3 : Cond.initialized "java/lang/Math" ∈ TW) (g4 : Cond.code yJ9_max_e70c8 cJ9_max_e70c8 2 (some .float) ∈ TW) (hx : FP.fIsNaN x = false) (hy : FP.fIsNaN y = false) (dd : decode cc pc = .ok (.invokestatic idx, 3)) (hcat : (st.map fun v => v.category).sum ≤ 8) (hd : 1 ≤ d) (k : J X D nL c w G I L (pc + 3) ls (.float (mx x y) :: st)) : J X D nL c w G I L pc ls (.float y :: .float x :: st) := by
  obtain ⟨p, l, e, R, s, m, args, below, meth, c0, Q⟩ := X
  intro H locs lsA hR hz hl hL
  obtain ⟨hx', hby, hml, hown, hts, hF, hlk, hsz, h0⟩ := id hX
  obtain ⟨-, R1, R2, R3, R4, R5⟩ := id hroom
  have hc2 := map_cat (D := D) st
  intro T hT S
  obtain ⟨v, vm₁, B, hW₁, X', ⟨hv, hB⟩, stp⟩ := callS S hx' (bytes := cJ9_max_e70c8) (maxL := 2) (ret := some .float) hown (hts _ g1) (hts _ g2) (hts _ g3) (hts _ g4) ⟨by decide +kernel, by decide +kernel⟩ (mx_back (W := 8) (hts _ g4) (by omega) (by omega) hx hy) (g := F0 m pc lsA (.float y :: .float x :: st.map (tv D))) rfl (by rw [hml]; exact hL.2.1) (argsL := [.float x, .float y]) (rest := st.map (tv D)) (fun sig h => by
      have h1 : parseMethodDescriptor "(FF)F" = some { parameters := [.float, .float], returnType := some .float } := by decide +kernel
      have h2 : parseMethodDescriptor "(FF)F" = some sig := h
      rw [h1] at h2
      rw [← Option.some.inj h2]
      rfl) rfl (by rw [hc2]; show 2 * 0 + _ ≤ 8; omega) (by rw [hby]; exact dd) (fun _ _ => rfl)
  cases hv
  subst hB
  obtain ⟨t, a1, b1⟩ := k H locs lsA hR hz hl hL (T.setVm vm₁) hT X'
  exact ⟨t, stp t a1, b1⟩
end MxJ
