/-! ===== the class's constructor, called; what lies there when the script begins ===== -/
def PcMA (D : DT) (av : List Value) (G : GT) (I : IT) (L : LT) : Array Value → State → Prop := va_Pc (av.map (tv D)) (fun U => Rel D G I L U.heap ∧ Facts D U ∧ va_AO "TeaHouse$House" U)
theorem PcMA.blind {D : DT} {av : List Value} {G : GT} {I : IT} {L : LT} : FrameBlind (PcMA D av G I L) := fun a U g mk h => ⟨h.1, h.2.1, Facts.calling h.2.2.1, va_AO.moved (Vm.Alike.refl U.vm) h.2.2.2⟩
def ConA (l : Launch) (D : DT) (M : MD) (d : Nat) (av : List Value) (mc ms : Nat) (G : GT) (I : IT) (L : LT) (P : Res → GT → IT → LT → Prop) : Prop :=
  vx_Met l M.1 (Cond.code M.1 M.2.1 M.2.2.1 M.2.2.2 :: TW) (rmD d mc ms) (PcMA D av G I L) (QcP D P) (XCP D P) mc ms (Ad D)
theorem ConA.met {l : Launch} {D : DT} {M : MD} {d mc ms : Nat} {av : List Value} {G : GT} {I : IT} {L : LT} {P : Res → GT → IT → LT → Prop} (h : ConA l D M d av mc ms G I L P) (hq : Quiet P) : Met l M.1 (Cond.code M.1 M.2.1 M.2.2.1 M.2.2.2 :: TW) (rmD d mc ms) (PcMA D av G I L) (QcP D P) mc ms (Ad D) := by
  refine Free.MetFree.mono h (fun _ _ h => h) (fun _ _ _ _ _ h => h) (fun a s o s' _ h => ?_)
  rcases h with h | ⟨q, -, E, ce, L1, ⟨G', I', L', hP, -⟩, -⟩
  · exact h
  · exact absurd hP (hq _ _ _ _)
theorem ConA.of {l : Launch} {D : DT} {M : MD} {d mc ms : Nat} {av : List Value} {G : GT} {I : IT} {L : LT} {P : Res → GT → IT → LT → Prop} (hy : plainName M.1.cls = true) (hc : ∀ v ∈ av, v.category = 1) (hn : av.length ≤ M.2.2.1) (hb : mc = 0 ∨ G.1 + mc < 1000000)
    (body : ∀ X : XT, OK X D M.2.1 M.1.cls M.2.2.1 → RT X l D M.2.2.2 P d mc ms → (M.1.name = "<init>" → InInit X) → AOX X → J X D M.2.2.1 0 0 G I L 0 (ent av M.2.2.1) []) : ConA l D M d av mc ms G I L P := by
  refine vx_ofW (cc := M.2.1) (maxL := M.2.2.1) (ret := M.2.2.2) hy rfl ?_
  intro p e s m args below meth c s₁ B hml htab hv
  obtain ⟨rfl, hR, hF, hA⟩ := hv
  have hts := atoms_spec (ws := Cond.code M.1 M.2.1 M.2.2.1 M.2.2.2 :: TW) B.pre
  have hown : s.vm.findClass M.1.cls = some m.cls := findClass_of_methodNamed B.named
  have hl := lv_entry (av.map (tv D)) (n := M.2.2.1) (by rw [lg_sl_len av hc]; exact hn)
  rw [lg_entry_eq]
  generalize (lg_sl (av.map (tv D)) ++ List.replicate (M.2.2.1 - (lg_sl (av.map (tv D))).length) Slot.unset).toArray = ls at hl ⊢
  have hX : OK (p, l, e, (headSpec (Cond.code M.1 M.2.1 M.2.2.1 M.2.2.2 :: TW) (rmD d mc ms)).room, s, m, (av.map (tv D)).toArray, below, meth, c, vx_MQ below (QcP D P) (XCP D P) (av.map (tv D)).toArray s mc ms (Ad D)) D M.2.1 M.1.cls M.2.2.1 :=
    ⟨B.exec, B.bytes, hml, hown, fun w hw => hts w (List.mem_cons_of_mem _ hw), hF, B.notSynchronized, by rw [hR.1]; exact Nat.le_add_right _ _, hR.2.2.1⟩
  have h := body _ hX ⟨rfl, B.returns, ⟨rfl, Nat.le_refl _, Nat.le_refl _, Nat.le_refl _, Nat.le_refl _, by
    show s.heap.size + mc < D.1 + 1000000
    have h1 := hR.1
    have h2 := hR.2.1
    rcases hb with rfl | hb <;> omega⟩, htab⟩ (fun hi => (name_of_methodNamed B.named B.method).1.trans hi) hA
  exact h s.heap [] ls hR (Nat.le_refl _) (fun q h => by cases h) ⟨by simp [ent]; omega, lv_mono hl (lprs_pad av 0 _ hc)⟩
theorem r_callIA {X : XT} {D : DT} {cc : ByteArray} {own : String} {nL c w : Nat} {G : GT} {I : IT} {L : LT} {pc : Nat} {ls st stk : List Value} {l0 : Launch} {P : Res → GT → IT → LT → Prop} {d mc ms d' mc' ms' : Nat} (hX : OK X D cc own nL) (hAO : AOX X) (hroom : Room2 X l0 D d mc ms) {y : MethodName} {bytes : ByteArray} {maxL idx n b : Nat} {As : List Value} (hM : ConA l0 D (y, bytes, maxL, none) d' (.ref b :: As) mc' ms' G I L P) (hq : Quiet P) (lk : LkI own idx (y, bytes, maxL, none) n) (dd : decode cc pc = .ok (.invokespecial idx, 3)) (hn : As.length = n) (hs : stk = As.reverse ++ .ref b :: st) (hcat : (st.map fun v => v.category).sum ≤ 8) (hd : d' + 1 ≤ d) (h1 : c + mc' ≤ mc) (h2 : w + ms' ≤ ms)
    (kret : ∀ v G' I' L', P (.inl v) G' I' L' → J X D nL (c + mc') (w + ms') G' I' L' (pc + 3) ls (v.toList ++ st)) : J X D nL c w G I L pc ls stk := by
  obtain ⟨p, l, e, R, s, m, args, below, meth, c0, Q⟩ := X
  intro H locs lsA hR hz hl hL
  subst hs
  obtain ⟨k1, k2, k3, -, k4⟩ := lk
  have cb := LkB.call (mc' := mc') (ms' := ms') hX hroom k4 k1 hd
  obtain ⟨hx, hby, hml, hown, hts, hF, -, hsz, h0⟩ := id hX
  obtain ⟨rfl, R1, R2, R3, R4, R5⟩ := id hroom
  rw [map_call]
  refine J.callM (a := (Value.ref (ta D b) :: As.map (tv D)).toArray) (st := st) (va_runI (own := own) (As := As.map (tv D)) (b := ta D b) (rest := st.map (tv D)) ⟨hx, hby, hml, hown, hts⟩ (hM.met hq) ⟨cb, k3, hts _ k2⟩ ⟨PcMA.blind, fun U hU hW => ⟨rfl, by rw [hU]; exact hR, hF.moved hW, va_AO.moved hW.alike hAO⟩⟩ rfl (by rw [List.length_map]; exact hn) (by show lsA.size = nL; exact hL.2.1) rfl ?_ dd ⟨by omega, by omega⟩) hz hl hL kret
  rw [map_cat]
  show 2 * 0 + _ ≤ 8
  omega
theorem c_X8_init {l : Launch} {D : DT} : ConA l D m_X8_init 4 [.ref 0] 189 1632 g0 iZ lZ (PG (gP 8) (iP 8) lZ) := by
  refine ConA.of (by decide +kernel) (by simp [Value.category]) (Nat.le_of_ble_eq_true rfl) (Or.inr (by decide)) (fun X hX hT hI0 hAO => ?_)
  have hX : OK X D cX8_init "TeaHouse" 2 := hX
  change J X D 2 0 0 _ _ _ 0 [.ref 0, .retAddr 0] []
  exact j_X8_init hX hAO (hI0 rfl) hT
/-! the law's head -/
def gE : GT := (0, shF, fun _ _ => none)
theorem F_E : Fresh gE iZ lZ := fun _ _ => ⟨rfl, rfl, rfl, rfl⟩
set_option maxRecDepth 100000 in
set_option maxHeartbeats 400000 in
theorem j_law_head {X : XT} {D : DT} {l : Launch} {d mc ms : Nat} (hX : OK X D cL_law "TeaHouseLaw" 21) (hAO : AOX X) (hR : Room2 X l D d mc ms) (hd : 5 ≤ d) (hmc : 190 ≤ mc) (hms : 1650 ≤ ms) (k : J X D 21 190 1644 (gP 8) (iP 8) lZ 8 [.ref 1000300, .ref 0, .retAddr 0, .retAddr 0, .retAddr 0, .retAddr 0, .retAddr 0, .retAddr 0, .retAddr 0, .retAddr 0, .retAddr 0, .retAddr 0, .retAddr 0, .retAddr 0, .retAddr 0, .retAddr 0, .retAddr 0, .retAddr 0, .retAddr 0, .retAddr 0, .retAddr 0] []) : J X D 21 0 0 gE iZ lZ 0 [.ref 1000300, .retAddr 0, .retAddr 0, .retAddr 0, .retAddr 0, .retAddr 0, .retAddr 0, .retAddr 0, .retAddr 0, .retAddr 0, .retAddr 0, .retAddr 0, .retAddr 0, .retAddr 0, .retAddr 0, .retAddr 0, .retAddr 0, .retAddr 0, .retAddr 0, .retAddr 0, .retAddr 0] [] := by
  refine r_newP hX hR nw_L_14 dL_law_0 (by omega) (by omega) (by decide) F_E (by decide) ?_
  refine r_dup hX dL_law_3 rfl ?_
  refine r_callIA (y := yX8_init) (bytes := cX8_init) (maxL := 2) (As := []) hX hAO hR c_X8_init PG.quiet lk_L_169 dL_law_4 rfl rfl (Nat.le_of_ble_eq_true rfl) (by omega) (by omega) (by omega) ?_
  generalize gP 8 = G8 at *
  generalize iP 8 = I8 at *
  rintro r G' I' L' ⟨e1, rfl, rfl, rfl⟩
  cases e1
  exact r_astore_n hX dL_law_7 (by decide) rfl k
