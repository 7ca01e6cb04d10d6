/-! ===== the class's constructor, called; what lies there when the script begins ===== -/
def PcMA (D : DT) (av : List Value) (G : GT) (I : IT) (L : LT) : Array Value → State → Prop := va_Pc (av.map (tv D)) (fun U => Rel D G I L U.heap ∧ Facts D U ∧ va_AO "TeaHouse$House" U)
theorem PcMA.blind {D : DT} {av : List Value} {G : GT} {I : IT} {L : LT} : FrameBlind (PcMA D av G I L) := fun a U g mk h => ⟨h.1, h.2.1, Facts.calling h.2.2.1, va_AO.moved (Vm.Alike.refl U.vm) h.2.2.2⟩
def ConA (l : Launch) (D : DT) (M : MD) (d : Nat) (av : List Value) (mc ms : Nat) (G : GT) (I : IT) (L : LT) (P : Res → GT → IT → LT → Prop) : Prop :=
  vx_Met l M.1 (Cond.code M.1 M.2.1 M.2.2.1 M.2.2.2 :: TW) (rmD d mc ms) (PcMA D av G I L) (QcP D P) (XCP D P) mc ms (Ad D)
theorem ConA.met {l : Launch} {D : DT} {M : MD} {d mc ms : Nat} {av : List Value} {G : GT} {I : IT} {L : LT} {P : Res → GT → IT → LT → Prop} (h : ConA l D M d av mc ms G I L P) (hq : Quiet P) : Met l M.1 (Cond.code M.1 M.2.1 M.2.2.1 M.2.2.2 :: TW) (rmD d mc ms) (PcMA D av G I L) (QcP D P) mc ms (Ad D) := by
  refine Free.MetFree.mono h (fun _ _ h => h) (fun _ _ _ _ _ h => h) (fun a s o s' _ h => ?_)
  rcases h with h | ⟨q, -, E, ce, L1, ⟨G', I', L', hP, -⟩, -⟩
  · exact h
  · exact absurd hP (hq _ _ _ _)
theorem ConA.of {l : Launch} {D : DT} {M : MD} {d mc ms : Nat} {av : List Value} {G : GT} {I : IT} {L : LT} {P : Res → GT → IT → LT → Prop} (hy : plainName M.1.cls = true) (hc : ∀ v ∈ av, v.category = 1) (hn : av.length ≤ M.2.2.1) (hb : mc = 0 ∨ G.1 + mc < 1000000)
    (body : ∀ X : XT, OK X D M.2.1 M.1.cls M.2.2.1 → RT X l D M.2.2.2 P d mc ms → (M.1.name = "<init>" → InInit X) → AOX X → J X D M.2.2.1 0 0 G I L 0 (ent av M.2.2.1) []) : ConA l D M d av mc ms G I L P := by
  refine vx_ofW (cc := M.2.1) (maxL := M.2.2.1) (ret := M.2.2.2) hy rfl ?_
  intro p e s m args below meth c s₁ B hml htab hv
  obtain ⟨rfl, hR, hF, hA⟩ := hv
  have hts := atoms_spec (ws := Cond.code M.1 M.2.1 M.2.2.1 M.2.2.2 :: TW) B.pre
  have hown : s.vm.findClass M.1.cls = some m.cls := findClass_of_methodNamed B.named
  have hl := lv_entry (av.map (tv D)) (n := M.2.2.1) (by rw [lg_sl_len av hc]; exact hn)
  rw [lg_entry_eq]
  generalize (lg_sl (av.map (tv D)) ++ List.replicate (M.2.2.1 - (lg_sl (av.map (tv D))).length) Slot.unset).toArray = ls at hl ⊢
  have hX : OK (p, l, e, (headSpec (Cond.code M.1 M.2.1 M.2.2.1 M.2.2.2 :: TW) (rmD d mc ms)).room, s, m, (av.map (tv D)).toArray, below, meth, c, vx_MQ below (QcP D P) (XCP D P) (av.map (tv D)).toArray s mc ms (Ad D)) D M.2.1 M.1.cls M.2.2.1 :=
    ⟨B.exec, B.bytes, hml, hown, fun w hw => hts w (List.mem_cons_of_mem _ hw), hF, B.notSynchronized, by rw [hR.1]; exact Nat.le_add_right _ _, hR.2.2.1⟩
  have h := body _ hX ⟨rfl, B.returns, ⟨rfl, Nat.le_refl _, Nat.le_refl _, Nat.le_refl _, Nat.le_refl _, by
    show s.heap.size + mc < D.1 + 1000000
    have h1 := hR.1
    have h2 := hR.2.1
    rcases hb with rfl | hb <;> omega⟩, htab⟩ (fun hi => (name_of_methodNamed B.named B.method).1.trans hi) hA
  exact h s.heap [] ls hR (Nat.le_refl _) (fun q h => by cases h) ⟨by simp [ent]; omega, lv_mono hl (lprs_pad av 0 _ hc)⟩
theorem r_callIA {X : XT} {D : DT} {cc : ByteArray} {own : String} {nL c w : Nat} {G : GT} {I : IT} {L : LT} {pc : Nat} {ls st stk : List Value} {l0 : Launch} {P : Res → GT → IT → LT → Prop} {d mc ms d' mc' ms' : Nat} (hX : OK X D cc own nL) (hAO : AOX X) (hroom : Room2 X l0 D d mc ms) {y : MethodName} {bytes : ByteArray} {maxL idx n b : Nat} {As : List Value} (hM : ConA l0 D (y, bytes, maxL, none) d' (.ref b :: As) mc' ms' G I L P) (hq : Quiet P) (lk : LkI own idx (y, bytes, maxL, none) n) (dd : decode cc pc = .ok (.invokespecial idx, 3)) (hn : As.length = n) (hs : stk = As.reverse ++ .ref b :: st) (hcat : (st.map fun v => v.category).sum ≤ 8) (hd : d' + 1 ≤ d) (h1 : c + mc' ≤ mc) (h2 : w + ms' ≤ ms)
    (kret : ∀ v G' I' L', P (.inl v) G' I' L' → J X D nL (c + mc') (w + ms') G' I' L' (pc + 3) ls (v.toList ++ st)) : J X D nL c w G I L pc ls stk := by
  obtain ⟨p, l, e, R, s, m, args, below, meth, c0, Q⟩ := X
  intro H locs lsA hR hz hl hL
  subst hs
  obtain ⟨k1, k2, k3, -, k4⟩ := lk
  have cb := LkB.call (mc' := mc') (ms' := ms') hX hroom k4 k1 hd
  obtain ⟨hx, hby, hml, hown, hts, hF, -, hsz, h0⟩ := id hX
  obtain ⟨rfl, R1, R2, R3, R4, R5⟩ := id hroom
  rw [map_call]
  refine J.callM (a := (Value.ref (ta D b) :: As.map (tv D)).toArray) (st := st) (va_runI (own := own) (As := As.map (tv D)) (b := ta D b) (rest := st.map (tv D)) ⟨hx, hby, hml, hown, hts⟩ (hM.met hq) ⟨cb, k3, hts _ k2⟩ ⟨PcMA.blind, fun U hU hW => ⟨rfl, by rw [hU]; exact hR, hF.moved hW, va_AO.moved hW.alike hAO⟩⟩ rfl (by rw [List.length_map]; exact hn) (by show lsA.size = nL; exact hL.2.1) rfl ?_ dd ⟨by omega, by omega⟩) hz hl hL kret
  rw [map_cat]
  show 2 * 0 + _ ≤ 8
  omega
theorem c_X8_init {l : Launch} {D : DT} : ConA l D m_X8_init 4 [.ref 0] 189 1632 g0 iZ lZ (PG (gP 8) (iP 8) lZ) := by
  refine ConA.of (by decide +kernel) (by simp [Value.category]) (Nat.le_of_ble_eq_true rfl) (Or.inr (by decide)) (fun X hX hT hI0 hAO => ?_)
  have hX : OK X D cX8_init "TeaHouse" 2 := hX
  change J X D 2 0 0 _ _ _ 0 [.ref 0, .retAddr 0] []
  exact j_X8_init hX hAO (hI0 rfl) hT
/-! the law's head -/
def gE : GT := (0, shF, fun _ _ => none)
def gM : GT := mG 190 (gS (gP 8))
def gL : GT := gS (gS gM)
def iL : IT := mI 190 (iP 8)
theorem F_E : Fresh gE iZ lZ := fun _ _ => ⟨rfl, rfl, rfl, rfl⟩

theorem dLh_0 : decode cL_law 0 = .ok (.new 8, 3) := by decide +kernel
theorem dLh_3 : decode cL_law 3 = .ok (.dup, 1) := by decide +kernel
theorem dLh_4 : decode cL_law 4 = .ok (.invokespecial 156, 3) := by decide +kernel
theorem dLh_7 : decode cL_law 7 = .ok (.astore_n 1, 1) := by decide +kernel
theorem dLh_8 : decode cL_law 8 = .ok (.new 157, 3) := by decide +kernel
theorem dLh_11 : decode cL_law 11 = .ok (.dup, 1) := by decide +kernel
theorem dLh_12 : decode cL_law 12 = .ok (.invokespecial 159, 3) := by decide +kernel
theorem dLh_15 : decode cL_law 15 = .ok (.astore_n 2, 1) := by decide +kernel
theorem dLh_16 : decode cL_law 16 = .ok (.iconst 1, 1) := by decide +kernel
theorem dLh_17 : decode cL_law 17 = .ok (.newarray .long, 2) := by decide +kernel
theorem dLh_19 : decode cL_law 19 = .ok (.astore_n 3, 1) := by decide +kernel
theorem dLh_20 : decode cL_law 20 = .ok (.iconst 1, 1) := by decide +kernel
theorem dLh_21 : decode cL_law 21 = .ok (.newarray .double, 2) := by decide +kernel
theorem dLh_23 : decode cL_law 23 = .ok (.astore 4, 2) := by decide +kernel
def lsL (a b : Nat) : List Value := [.ref 1000300, .ref 0, .ref a, .ref b, .ref (b + 1), .retAddr 0, .retAddr 0, .retAddr 0, .retAddr 0, .retAddr 0]
set_option maxRecDepth 100000 in
set_option maxHeartbeats 400000 in
theorem j_law_head2 {X : XT} {D : DT} {l : Launch} {G8 : GT} {I8 : IT} (hX : OK X D cL_law "TeaHouseLaw" 10) (hR : Room2 X l D 17 603072 7223402) (n8 : G8.1 = 190) (s8 : G8.2.1 = shF) (F8 : Fresh G8 I8 lZ) (k : J X D 10 197 3502 (gS (gS (mG 190 (gS G8)))) (mI 190 I8) lZ 25 [.ref 1000300, .ref 0, .ref 190, .ref 195, .ref 196, .retAddr 0, .retAddr 0, .retAddr 0, .retAddr 0, .retAddr 0] []) : J X D 10 190 1644 G8 I8 lZ 7 [.ref 1000300, .retAddr 0, .retAddr 0, .retAddr 0, .retAddr 0, .retAddr 0, .retAddr 0, .retAddr 0, .retAddr 0, .retAddr 0] [.ref 0] := by
  have n9 : (gS G8).1 = 191 := by show G8.1 + 1 = 191; rw [n8]
  have nM : (mG 190 (gS G8)).1 = 195 := by show G8.1 + 1 + 4 = 195; rw [n8]
  have sM : (mG 190 (gS G8)).2.1 = shF := s8
  have h2 : Fresh (mG 190 (gS G8)) I8 lZ := (((F8.g1.s1 (a := 190) (j := 1) (by rw [n9]; decide)).s1 (by show 190 < (gS G8).1 + 1; omega)).s1 (by show 190 < (gS G8).1 + 1 + 1; omega)).s1 (by show 190 < (gS G8).1 + 1 + 1 + 1; omega)
  have FM : Fresh (mG 190 (gS G8)) (mI 190 I8) lZ := ((((h2.up (by omega)).up (by omega)).up (by omega)).up (by omega)).up (by omega)
  have nM2 : (gS (mG 190 (gS G8))).1 = 196 := by show (mG 190 (gS G8)).1 + 1 = 196; rw [nM]
  have hs190 : G8.2.1 190 = (10, 0) := by rw [s8]; decide
  have hs4 : ∀ i, i < 4 → G8.2.1 (190 + 1 + i) = ([(22, 1236), (21, 240), (21, 60), (22, 305)] : List (Nat × Nat)).getD i (99, 0) := by rw [s8]; decide +kernel
  refine r_astore_n hX dLh_7 (by decide) rfl ?_
  refine r_newP hX hR nw_L_157 dLh_8 (by decide) (by decide) (by rw [n8]; decide) F8 (by rw [n8]; exact hs190) ?_
  rw [n8]
  refine r_dup hX dLh_11 rfl ?_
  refine r_callI (y := yX9_init) (bytes := cX9_init) (maxL := 1) (As := []) hX hR (c_X9_init (a := 190) F8.g1 n9 hs190 (fun i hi => ?_) (by rw [n9]; decide) ?_) PG.quiet lk_L_159 dLh_12 rfl rfl (Nat.le_of_ble_eq_true rfl) (by decide) (by decide) (by decide) ?_
  · rw [n9]; exact hs4 i hi
  · exact (F8 190 (by omega)).1
  rintro r G' I' L' ⟨e1, rfl, rfl, rfl⟩
  cases e1
  generalize hGM : mG 190 (gS G8) = GM at *
  generalize hIM : mI 190 I8 = IM at *
  refine r_astore_n hX dLh_15 (by decide) rfl ?_
  refine r_iconst hX dLh_16 (v := nI 1) (by decide) ?_
  refine r_newaP (t := 5) hX hR rfl (by decide) (by decide) w_arr_long dLh_17 rfl (by decide) (by decide) (by decide) (by rw [nM]; decide) FM (by rw [sM, nM]; decide) ?_
  rw [nM]
  refine r_astore_n hX dLh_19 (by decide) rfl ?_
  refine r_iconst hX dLh_20 (v := nI 1) (by decide) ?_
  refine r_newaP (t := 6) hX hR rfl (by decide) (by decide) w_arr_double dLh_21 rfl (by decide) (by decide) (by decide) (by rw [nM2]; decide) FM.g1 (by rw [nM2]; show GM.2.1 196 = _; rw [sM]; decide) ?_
  rw [nM2]
  exact r_astore hX dLh_23 (by decide) rfl k
set_option maxRecDepth 100000 in
set_option maxHeartbeats 400000 in
theorem j_law_head {X : XT} {D : DT} {l : Launch} (hX : OK X D cL_law "TeaHouseLaw" 10) (hAO : AOX X) (hR : Room2 X l D 17 603072 7223402) (k : J X D 10 197 3502 gL iL lZ 25 [.ref 1000300, .ref 0, .ref 190, .ref 195, .ref 196, .retAddr 0, .retAddr 0, .retAddr 0, .retAddr 0, .retAddr 0] []) : J X D 10 0 0 gE iZ lZ 0 [.ref 1000300, .retAddr 0, .retAddr 0, .retAddr 0, .retAddr 0, .retAddr 0, .retAddr 0, .retAddr 0, .retAddr 0, .retAddr 0] [] := by
  refine r_newP hX hR nw_L_8 dLh_0 (by decide) (by decide) (by decide) F_E (by decide) ?_
  refine r_dup hX dLh_3 rfl ?_
  refine r_callIA (y := yX8_init) (bytes := cX8_init) (maxL := 2) (As := []) hX hAO hR c_X8_init PG.quiet lk_L_156 dLh_4 rfl rfl (Nat.le_of_ble_eq_true rfl) (by decide) (by decide) (by decide) ?_
  have n8 := gP_n 8
  have s8 := gP_sh 8
  have F8 := F_P 8
  unfold gL gM iL at k
  generalize gP 8 = G8 at *
  generalize iP 8 = I8 at *
  rintro r G' I' L' ⟨e1, rfl, rfl, rfl⟩
  cases e1
  exact j_law_head2 hX hR n8 s8 F8 k
