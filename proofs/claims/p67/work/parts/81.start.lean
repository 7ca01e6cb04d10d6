/-! THE CLAIM OUT OF ONE WALK OF THE LAW'S BODY. Your part is whole_start (and what it stands on); all else here is the same for every law, but numbers. -/
def R_law : String := "TeaHouseLaw"
def lw_P (b : Addr) (xs : List Int32) (args : Array Value) (s : State) : Prop := args = #[.ref b] ∧ s.IntsAt b xs ∧ xs.length ≤ 260 ∧ (Jvm.Cond.and given_1 narrow_1).before args s = true
/-- what a walk over the start with the record d0 says of its end, said of the start itself -/
theorem lw_closed {s t : State} {o : Outcome} {d0 : Drawn} {L : List Loc} {k n : Nat} (hd0 : s.drawn.sameBut d0 lw_cs) (hv : ∃ v, o = .returned v) (hW : (s.setDrawn d0).WarmedH t.vm) (hs : (s.setDrawn d0).sameButNew ({ t with vm := s.vm } : State) L k n) : State.butDraws s t lw_cs (fun t1 => Framed s o t1 L k n) := by
  have h2 : t.drawn = d0 := congrArg State.drawn hs.1
  refine ⟨⟨hv, hW, State.sameButNew.setDrawn hs s.drawn⟩, ?_, by decide⟩
  rw [h2]
  exact hd0
def lw_Q (_ : Array Value) (s : State) (o : Outcome) (t : State) : Prop := o = .returned (some (.int 1)) ∧ State.butDraws s t lw_cs (fun t1 => Framed s o t1 [] 730279 6904340)
def lw_Z (below : List Frame) (a : Array Value) (s : State) : State → Prop := fun t => ∃ o, t.status = .running ∧ Ended t below o ∧ lw_Q a s o t
/-- what holds at the law's entry: the machine, the code, the tables' words (any of lw_tbl by 'hts w (by decide +kernel)'), the script of L ints xs at the cell b, what the Statement gives of the start (any of its parts by flat_of_before) -/
def lw_At (p : Program) (s : State) (m : MethodId) (meth : Method) (c : Code) (b L : Nat) (xs : Nat → Int32) : Prop :=
  p.tables.exec = Jvm.exec ∧ c.code = code ∧ meth.sig.returnType = ret ∧ c.maxLocals = 21 ∧ s.vm.findClass R_law = some m.cls ∧ (∀ w ∈ lw_tbl, w.before #[Value.ref b] s = true) ∧ va_X b L xs s s.heap ∧ b < s.heap.size ∧ meth.locks = false ∧ (Jvm.Cond.and given_1 narrow_1).before #[Value.ref b] s = true
theorem sbn_old {s s' : State} {locs : List Loc} {c n c' n' : Nat} (h : s.sameButNew s' locs c n) (hl : ∀ q ∈ locs, s.heap.size ≤ q.base) (hc : c ≤ c') (hn : n ≤ n') : s.sameButNew s' [] c' n' := by
  obtain ⟨h1, h2, h3, h4, h5, h6⟩ := h
  refine ⟨h1, h2, Nat.le_trans h3 (Nat.add_le_add_left hc _), h4, Nat.le_trans h5 hn, fun a cell ha => ?_⟩
  obtain ⟨c', g1, g2, g3, g4⟩ := h6 a cell ha
  refine ⟨c', g1, g2, g3, fun i _ => g4 i fun hm => ?_⟩
  have h7 : s.heap.size ≤ a := hl _ hm
  have h8 : a < s.heap.size := (Array.getElem?_eq_some_iff.mp ha).1
  exact absurd h8 (Nat.not_lt.mpr h7)
theorem law_end {p : Program} {l : Launch} {e : Env} {s : State} {m : MethodId} {below : List Frame} {meth : Method} {c : Code} {b : Nat} {D : DT} (hx : p.tables.exec = Jvm.exec) (hb : c.code = code) (hr : meth.sig.returnType = ret) (hlocks : meth.locks = false) (h1 : D.1 = s.heap.size) : EndAt (p, l, e, room_1, s, m, #[Value.ref b], below, meth, c, lw_Z below #[Value.ref b] s) D lZ (fun x _ => x = nI 1) 730279 6904340 := by
  unfold EndAt
  intro pc cc w x I ls hdg0 hc hw hK G I' hlb H locs lsA hR hz hl hL
  subst hK
  have hdg : decode code pc = .ok (.ireturn, 1) := hdg0
  have e1 : nI 1 = (1 : Int32) := by decide
  show W p l e room_1 s m #[Value.ref b] below meth c H locs cc w (lw_Z below #[Value.ref b] s) (F0 m pc lsA [.int (nI 1)])
  rw [e1]
  refine W.base ?_
  intro T hT X
  obtain ⟨fs, hret, hrun, hended, hW, hframe⟩ := X.leave (v := some (.int 1)) (hlocks := hlocks) (fun h => by rw [hr] at h; cases h)
  have hmeth' : T.vm.method? m = some meth := X.method'
  refine ⟨T.setFrames fs, ?_, .returned (some (.int 1)), hrun, hended, rfl, lw_closed (Drawn.sameBut.refl s.drawn lw_cs) ⟨_, rfl⟩ hW (sbn_old hframe (fun q hq => by have h9 := hl q hq; rw [h1] at h9; exact h9) hc hw)⟩
  jvm_step X.here [X.here.top, hx, hb, hdg, hmeth', hr, ret, narrow_b1]
  (try refine ⟨rfl, ?_⟩); (try refine ⟨rfl, ?_⟩)
  first | (intro acts; rw [hret _ acts rfl rfl rfl]) | rw [hret _ _ rfl rfl rfl]
  exact Steps.refl _
/-- from the entry to the law's end -/
theorem whole_start {p : Program} {e : Env} {s : State} {m : MethodId} {below : List Frame} {meth : Method} {c : Code} (l : Launch) (hflags : l.flags = flags0) {b L : Nat} {xs : Nat → Int32} (hL : L ≤ 260) (C0 : lw_At p s m meth c b L xs) : W p l e room_1 s m #[Value.ref b] below meth c s.heap [] 0 0 (lw_Z below #[Value.ref b] s) (entryFrame m ([Value.ref b] : List Value).toArray 21) := by
  obtain ⟨hx, hb, hr, hml, hown, hts, hXb, hbs, hlk, hgv⟩ := C0
  have hn := n_all hgv
  have hf : l.stackTraces = false := by
    show (!l.flags.contains noTraceFlag) = false
    rw [hflags]
    decide +kernel
  obtain ⟨dC, dI, dA, hK⟩ := k_all hts
  obtain ⟨D, hD⟩ : ∃ D : DT, D = (s.heap.size, s.heap, dC, dI, dA, adS #[Value.ref b] s) := ⟨_, rfl⟩
  have hF : Facts D s := facts_at hts hn hK hD
  have h1 : D.1 = s.heap.size := by rw [hD]
  have h2 : D.2.1 = s.heap := by rw [hD]
  have h3 : ta D 1000300 = b := by
    have h9 : adS #[Value.ref b] s 300 = b := (KN.of (args := #[Value.ref b]) (s := s) (c := 300) (a := b) (by decide) rfl).2
    rw [hD]
    exact h9
  have hXO : OK (p, l, e, room_1, s, m, #[Value.ref b], below, meth, c, lw_Z below #[Value.ref b] s) D cL_law "TeaHouseLaw" 21 :=
    ⟨hx, hb, hml, hown, tw_all hts, hF, hlk, Nat.le_of_eq h1, fun q _ => by rw [h2]⟩
  have hAO : AOX (p, l, e, room_1, s, m, #[Value.ref b], below, meth, c, lw_Z below #[Value.ref b] s) := va_AO.of (hts _ (List.mem_of_getElem? (i := 227) (by decide +kernel)))
  have hRm : Room2 (p, l, e, room_1, s, m, #[Value.ref b], below, meth, c, lw_Z below #[Value.ref b] s) l D 14 730279 6904340 := ⟨rfl, by decide, by decide, by decide, by decide, by
    show s.heap.size + 730279 < D.1 + 1000000
    omega⟩
  have hN : NCX (p, l, e, room_1, s, m, #[Value.ref b], below, meth, c, lw_Z below #[Value.ref b] s) := fun a ha d hd h => va_Nc.of (hn _ (subC_mem _ _ s_nc _ (List.mem_map.mpr ⟨_, nc_ok a ha d hd h, rfl⟩)))
  have hS : ScrX (p, l, e, room_1, s, m, #[Value.ref b], below, meth, c, lw_Z below #[Value.ref b] s) D L xs := by
    show ScU D L xs s
    refine ⟨by omega, ?_, ?_⟩
    · rw [h3, h1]; exact hbs
    · rw [h3, h2]; exact hXb
  have hE := @law_end p l e s m below meth c b D hx hb hr hlk h1
  have hJ := j_law_head hXO hAO hRm (by decide) (Nat.le_of_ble_eq_true rfl) (Nat.le_of_ble_eq_true rfl) (w_L_law hf hXO hRm hN hS hE (c := 190) (w := 1644) (Nat.le_of_ble_eq_true rfl) (Nat.le_of_ble_eq_true rfl) (l_law (nn := L) (xs := xs) (by omega) gi_0 rfl (fun _ => rfl)) (gP 8) (iP 8) layb_0)
  have hc1 : ∀ v ∈ ([Value.ref 1000300] : List Value), v.category = 1 := by
    intro v hv
    rcases List.mem_singleton.mp hv with rfl
    rfl
  have e1 : ([Value.ref 1000300] : List Value).map (tv D) = [Value.ref b] := by
    show [Value.ref (ta D 1000300)] = _
    rw [h3]
  have h0 := lg_sl_len (D := D) [Value.ref 1000300] hc1
  rw [e1] at h0
  have hp := lprs_pad (D := D) [Value.ref 1000300] 0 20 hc1
  rw [e1] at hp
  have hl := lv_entry [Value.ref b] (n := 21) (by rw [h0]; decide)
  rw [lg_entry_eq]
  generalize (lg_sl [Value.ref b] ++ List.replicate (21 - (lg_sl [Value.ref b]).length) Slot.unset).toArray = ls at hl ⊢
  exact hJ s.heap [] ls ⟨by rw [h1]; rfl, by decide, fun q _ => by rw [h2], fun k hk => absurd hk (Nat.not_lt_zero _)⟩ (Nat.le_refl _) (fun q h => by cases h) ⟨rfl, lv_mono hl hp⟩
