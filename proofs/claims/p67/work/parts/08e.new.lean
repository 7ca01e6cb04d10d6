/-! ===== what is made ===== -/
def gNew (G : GT) (tag n : Nat) : GT := (G.1 + 1, fun k => if k = G.1 then (tag, n) else G.2.1 k, fun k => if k = G.1 then (fun _ => none) else G.2.2 k)
def iNew (G : GT) (I : IT) : IT := fun k => if k = G.1 then (fun _ => 0) else I k
def lNew (G : GT) (L : LT) : LT := (fun k => if k = G.1 then (fun _ => 0) else L.1 k, fun k => if k = G.1 then (fun _ => 0) else L.2 k)
/-- the room of a method whose calls go d deep -/
def rmD (d mc ms : Nat) : Room := { frames := d, cells := mc, slots := ms, locals := 64 * d + 64 }
/-- the room that the frame's method has -/
def Room2 (X : XT) (l0 : Launch) (D : DT) (d mc ms : Nat) : Prop := match X with
  | (p, l, e, R, s, m, args, below, meth, c, Q) => l = l0 ∧ d ≤ R.frames ∧ 64 * d + 64 ≤ R.locals ∧ mc ≤ R.cells ∧ ms ≤ R.slots ∧ s.heap.size + R.cells < D.1 + 1000000
theorem Rel.pushNew {D : DT} {G : GT} {I : IT} {L : LT} {H H' : Heap} {tag n : Nat} (h : Rel D G I L H) (hb : G.1 + 1 < 1000000) (hz : H'.size = D.1 + G.1 + 1) (ho : ∀ q, q < D.1 + G.1 → H'[q]? = H[q]?) (hc : CR D (gNew G tag n) (iNew G I) (lNew G L) H' G.1) : Rel D (gNew G tag n) (iNew G I) (lNew G L) H' := by
  have ne : ∀ k, k < G.1 → k ≠ G.1 := fun k hk => Nat.ne_of_lt hk
  exact h.push rfl hb (fun k hk => if_neg (ne k hk)) (fun k hk => if_neg (ne k hk)) (fun k hk => if_neg (ne k hk)) (fun k hk => if_neg (ne k hk)) (fun k hk => if_neg (ne k hk)) hz ho hc
def NW (own : String) (idx ci N : Nat) : Prop := ∃ r, vwCl[ci]? = some r ∧ ci < 20 ∧ r.2.2 = N ∧ Cond.classLink own idx r.1 ∈ TW ∧ Cond.instantiable r.1 N ∈ TW ∧ Cond.initialized r.1 ∈ TW ∧ ∀ (ty : Nat → FieldType) (j : Nat), (∀ k, k < N → parseFieldDescriptor (r.2.1 k).2.2.1 = some (ty k)) → j < N → defaultValue (ty j) = if isR ci j = true then .null else .int 0
section New
variable {X : XT} {D : DT} {cc : ByteArray} {own : String} {nL c w : Nat} {G : GT} {I : IT} {L : LT} {pc : Nat} {ls st : List Value}
theorem r_new (hX : OK X D cc own nL) {d mc ms idx ci N : Nat} {l0 : Launch} (hroom : Room2 X l0 D d mc ms) (gf : NW own idx ci N) (dd : decode cc pc = .ok (.new idx, 3)) (h1 : c + 1 ≤ mc) (h2 : w + N ≤ ms) (hb : G.1 + 1 < 1000000) (k : J X D nL (c + 1) (w + N) (gNew G ci 0) (iNew G I) (lNew G L) (pc + 3) ls (.ref G.1 :: st)) : J X D nL c w G I L pc ls st := by
  obtain ⟨p, l, e, R, s, m, args, below, meth, c0, Q⟩ := X
  intro H locs lsA hR hz hl hL
  obtain ⟨r, hr, hc, hN, g1, g2, g3, g4⟩ := gf
  obtain ⟨hx, hby, -, hown, hts, hF, -⟩ := hX
  obtain ⟨-, -, -, R1, R2, -⟩ := hroom
  have hKn := hF.1.1 ci _ hr
  have hin := vw_in ci r hr
  obtain ⟨ty, hty⟩ := vw_ty ci r hr
  refine W.newcK hx hby hown (hts _ g1) (hts _ g2) (hts _ g3) rfl dd (by omega) (by omega) hKn.2.1 (h := D.1 + G.1) hR.1 fun H1 kC hkC e1 z1 o1 => ?_
  have hk := k H1 locs lsA (hR.pushNew hb z1 o1 (CR.to_ob (ci := ci) (z := 0) (r := r) (if_pos rfl) hc hr ?_)) (by have := hR.1; omega) hl hL
  · simp only [List.map_cons] at hk
    have ht : tv D (.ref G.1) = .ref (D.1 + G.1) := by show Value.ref (ta D G.1) = _; rw [ta_lt D hR.2.1]
    rw [ht] at hk
    exact hk
  · refine (u_born ty hts hin hKn hkC e1 hty).to fun j hj => ?_
    rw [g4 ty j (by rw [← hN]; exact hty) (by omega)]
    simp only [fval, gNew, iNew, if_true]
    split <;> rfl
theorem findA {s : State} {D : DT} (hF : Facts D s) {t : Nat} (h : t < 5) (h4 : t ≠ 4) {cA : ClassId} (hf : s.vm.findClass ("[" ++ (arrTy t).toString) = some cA) : cA = D.2.2.2.2.1 t := by
  have h1 := (hF.1.2 t _ (tysL_at D h)).2
  match t, h, h4 with
  | 0, _, _ => exact Option.some.inj (hf.symm.trans h1)
  | 1, _, _ => exact Option.some.inj (hf.symm.trans h1)
  | 2, _, _ => exact Option.some.inj (hf.symm.trans h1)
  | 3, _, _ => exact Option.some.inj (hf.symm.trans h1)
  | 4, _, h4 => exact absurd rfl h4
theorem r_newa (hX : OK X D cc own nL) {d mc ms t N : Nat} {atype : ArrayType} {x : Int32} {l0 : Launch} (hroom : Room2 X l0 D d mc ms) (ht : newarray.typeOf atype = arrTy t) (h7 : t < 5) (h4 : t ≠ 4) (hw : Cond.arrayClass (arrTy t) ∈ TW) (dd : decode cc pc = .ok (.newarray atype, 2)) (hx2 : x = nI N) (hN : N < 100000) (h1 : c + 1 ≤ mc) (h2 : w + N ≤ ms) (hb : G.1 + 1 < 1000000) (k : J X D nL (c + 1) (w + N) (gNew G (20 + t) N) (iNew G I) (lNew G L) (pc + 2) ls (.ref G.1 :: st)) : J X D nL c w G I L pc ls (.int x :: st) := by
  obtain ⟨p, l, e, R, s, m, args, below, meth, c0, Q⟩ := X
  intro H locs lsA hR hz hl hL
  subst hx2
  obtain ⟨hx, hby, -, hown, hts, hF, -⟩ := hX
  obtain ⟨-, -, -, R1, R2, -⟩ := hroom
  have hbytes : N * componentBytes (newarray.typeOf atype) ≤ 536870912 := by
    have : componentBytes (newarray.typeOf atype) ≤ 8 := by cases atype <;> decide
    calc N * componentBytes (newarray.typeOf atype) ≤ 100000 * 8 := Nat.mul_le_mul (by omega) this
      _ ≤ _ := by decide
  refine va_newaK hx hby (by rw [ht]; exact hts _ hw) rfl dd rfl (nI_pos (by omega)) (nI_clamp (by omega)) hbytes (by omega) (by omega) (h := D.1 + G.1) hR.1 fun H1 cA e1 z1 o1 a1 f1 => ?_
  rw [ht] at e1 f1
  have hcA := findA hF h7 h4 f1
  have hk := k H1 locs lsA (hR.pushNew hb z1 o1 (CR.to_ar (t := t) (n := N) (if_pos rfl) h7 ?_)) (by have := hR.1; omega) hl hL
  · simp only [List.map_cons] at hk
    have ht : tv D (.ref G.1) = .ref (D.1 + G.1) := by show Value.ref (ta D G.1) = _; rw [ta_lt D hR.2.1]
    rw [ht] at hk
    exact hk
  · rw [e1, hcA]
    have fin : ∀ (v4 : (Nat → Int32) ⊕ (Nat → Int64) ⊕ (Nat → UInt32) ⊕ (Nat → UInt64) ⊕ (Nat → Option Nat)), arrV4 D (gNew G (20 + t) N) (iNew G I) (lNew G L) t G.1 = v4 → some (arrV (D.2.2.2.2.1 t) N (fun _ => defaultValue (arrTy t))) = some (vp_cell (D.2.2.2.2.1 t) (N, v4)) → some (arrV (D.2.2.2.2.1 t) N (fun _ => defaultValue (arrTy t))) = some (vp_cell (D.2.2.2.2.1 t) (N, arrV4 D (gNew G (20 + t) N) (iNew G I) (lNew G L) t G.1)) := fun v4 h1 h2 => by rw [h1]; exact h2
    match t, h7, h4 with
    | 0, _, _ => exact fin (.inl (fun _ => 0)) (by simp [arrV4, iNew]) rfl
    | 1, _, _ => exact fin (.inl (fun _ => 0)) (by simp [arrV4, iNew]) rfl
    | 2, _, _ => exact fin (.inl (fun _ => 0)) (by simp [arrV4, iNew]) rfl
    | 3, _, _ => exact fin (.inl (fun _ => 0)) (by simp [arrV4, iNew]) rfl
    | 4, _, h4 => exact absurd rfl h4
/-! ===== constants ===== -/
theorem r_gets (hX : OK X D cc own nL) {idx : Nat} {q : String × String × String × Value} (hq : q ∈ cZ) (hlink : Cond.fieldLink own idx q.1 q.2.1 q.2.2.1 ∈ TW) (d : decode cc pc = .ok (.getstatic idx, 3)) (k : J X D nL c w G I L (pc + 3) ls (q.2.2.2 :: st)) : J X D nL c w G I L pc ls st := by
  obtain ⟨p, l, e, R, s, m, args, below, meth, c0, Q⟩ := X
  intro H locs lsA hR hz hl hL
  obtain ⟨hx, hby, -, hown, hts, hF, -, hsz, h0⟩ := hX
  exact va_gets hx hby ((hF.2.1 q hq).kept (old_kept h0)) (Facts.S h0 hR hz hl) hown (hts _ hlink) (fun _ h => h) d (k H locs lsA hR hz hl hL)
theorem r_getsN (hX : OK X D cc own nL) {idx : Nat} {host : String} {q : String × String × String × Value} (hq : q ∈ cZ) (hlink : Cond.fieldLinkNest own idx q.1 q.2.1 q.2.2.1 host ∈ TW) (d : decode cc pc = .ok (.getstatic idx, 3)) (k : J X D nL c w G I L (pc + 3) ls (q.2.2.2 :: st)) : J X D nL c w G I L pc ls st := by
  obtain ⟨p, l, e, R, s, m, args, below, meth, c0, Q⟩ := X
  intro H locs lsA hR hz hl hL
  obtain ⟨hx, hby, -, hown, hts, hF, -, hsz, h0⟩ := hX
  exact va_getsN hx hby ((hF.2.1 q hq).kept (old_kept h0)) (Facts.S h0 hR hz hl) hown (hts _ hlink) (fun _ h => h) d (k H locs lsA hR hz hl hL)
theorem r_getC (hX : OK X D cc own nL) {idx code : Nat} {o n dd : String} {v : Value} (hq : (o, n, dd, v, code) ∈ cF) (hlink : Cond.fieldLink own idx o n dd ∈ TW) (d : decode cc pc = .ok (.getfield idx, 3)) (k : J X D nL c w G I L (pc + 3) ls (v :: st)) : J X D nL c w G I L pc ls (.ref (1000000 + code) :: st) := by
  obtain ⟨p, l, e, R, s, m, args, below, meth, c0, Q⟩ := X
  intro H locs lsA hR hz hl hL
  obtain ⟨hx, hby, -, hown, hts, hF, -, hsz, h0⟩ := hX
  exact vk_getf hx hby ((hF.2.2.1 _ hq).kept (old_kept h0)) (Facts.S h0 hR hz hl) hown (hts _ hlink) (fun _ h => h) d (k H locs lsA hR hz hl hL)
theorem cT_at {D : DT} {s : State} (hF : Facts D s) (h0 : ∀ q, q < D.1 → s.heap[q]? = D.2.1[q]?) {ty : FieldType} {code N : Nat} {vs : List Value} (hq : (ty, code, N, vs) ∈ cT) : va_T ty (ta D (1000000 + code)) N (fun j => tv D (vp_V vs j)) (Ad D) s s.heap := (hF.2.2.2.2.1 _ hq).kept (old_kept h0)
theorem r_lenC (hX : OK X D cc own nL) {code N : Nat} {ty : FieldType} {vs : List Value} (hq : (ty, code, N, vs) ∈ cT) (d : decode cc pc = .ok (.arraylength, 1)) (k : J X D nL c w G I L (pc + 1) ls (.int (nI N) :: st)) : J X D nL c w G I L pc ls (.ref (1000000 + code) :: st) := by
  obtain ⟨p, l, e, R, s, m, args, below, meth, c0, Q⟩ := X
  intro H locs lsA hR hz hl hL
  obtain ⟨hx, hby, -, hown, hts, hF, -, hsz, h0⟩ := hX
  exact va_tlen hx hby (cT_at hF h0 hq) (Facts.S h0 hR hz hl) rfl d (k H locs lsA hR hz hl hL)
theorem r_ialdC (hX : OK X D cc own nL) {code N j : Nat} {i : Int32} {v : Value} {vs : List Value} (hq : (FieldType.int, code, N, vs) ∈ cT) (d : decode cc pc = .ok (.iaload, 1)) (hi : i = nI j) (hj : j < N) (hn : N < 2 ^ 31) (hv : vp_V vs j = v) (k : J X D nL c w G I L (pc + 1) ls (v :: st)) : J X D nL c w G I L pc ls (.int i :: .ref (1000000 + code) :: st) := by
  obtain ⟨p, l, e, R, s, m, args, below, meth, c0, Q⟩ := X
  intro H locs lsA hR hz hl hL
  subst hi
  obtain ⟨hx, hby, -, hown, hts, hF, -, hsz, h0⟩ := hX
  exact va_ti (v := tv D v) hx hby (cT_at hF h0 hq) (Facts.S h0 hR hz hl) (vp_in_nI hj hn) (by rw [nI_clamp (Nat.lt_trans hj hn), hv]) d (k H locs lsA hR hz hl hL)
theorem r_baldC (hX : OK X D cc own nL) {code N j : Nat} {i : Int32} {v : Value} {vs : List Value} (hq : (FieldType.byte, code, N, vs) ∈ cT) (d : decode cc pc = .ok (.baload, 1)) (hi : i = nI j) (hj : j < N) (hn : N < 2 ^ 31) (hv : vp_V vs j = v) (k : J X D nL c w G I L (pc + 1) ls (v :: st)) : J X D nL c w G I L pc ls (.int i :: .ref (1000000 + code) :: st) := by
  obtain ⟨p, l, e, R, s, m, args, below, meth, c0, Q⟩ := X
  intro H locs lsA hR hz hl hL
  subst hi
  obtain ⟨hx, hby, -, hown, hts, hF, -, hsz, h0⟩ := hX
  exact va_tb (v := tv D v) hx hby (cT_at hF h0 hq) (Facts.S h0 hR hz hl) (vp_in_nI hj hn) (by rw [nI_clamp (Nat.lt_trans hj hn), hv]) d (k H locs lsA hR hz hl hL)
theorem r_aaldC (hX : OK X D cc own nL) {code N j : Nat} {i : Int32} {v : Value} {C : String} {vs : List Value} (hq : (FieldType.object C, code, N, vs) ∈ cT) (d : decode cc pc = .ok (.aaload, 1)) (hi : i = nI j) (hj : j < N) (hn : N < 2 ^ 31) (hv : vp_V vs j = v) (k : J X D nL c w G I L (pc + 1) ls (v :: st)) : J X D nL c w G I L pc ls (.int i :: .ref (1000000 + code) :: st) := by
  obtain ⟨p, l, e, R, s, m, args, below, meth, c0, Q⟩ := X
  intro H locs lsA hR hz hl hL
  subst hi
  obtain ⟨hx, hby, -, hown, hts, hF, -, hsz, h0⟩ := hX
  exact vb_tq (v := tv D v) hx hby (cT_at hF h0 hq) (Facts.S h0 hR hz hl) (vp_in_nI hj hn) (by rw [nI_clamp (Nat.lt_trans hj hn), hv]) d (k H locs lsA hR hz hl hL)
theorem r_ldcS (hX : OK X D cc own nL) {idx code : Nat} {tx : String} (hq : (own, idx, tx, code) ∈ cS) (d : decode cc pc = .ok (.ldc idx, 2)) (k : J X D nL c w G I L (pc + 2) ls (.ref (1000000 + code) :: st)) : J X D nL c w G I L pc ls st := by
  obtain ⟨p, l, e, R, s, m, args, below, meth, c0, Q⟩ := X
  intro H locs lsA hR hz hl hL
  obtain ⟨hx, hby, -, hown, hts, hF, -, hsz, h0⟩ := hX
  exact va_ldcS hx hby hown (hF.2.2.2.2.2.1 _ hq) d (k H locs lsA hR hz hl hL)
theorem r_ldcf (hX : OK X D cc own nL) {idx : Nat} {v : UInt32} (hq : Cond.constantFloat own idx v ∈ TW) (d : decode cc pc = .ok (.ldc idx, 2)) (k : J X D nL c w G I L (pc + 2) ls (.float v :: st)) : J X D nL c w G I L pc ls st := by
  obtain ⟨p, l, e, R, s, m, args, below, meth, c0, Q⟩ := X
  intro H locs lsA hR hz hl hL
  obtain ⟨hx, hby, -, hown, hts, hF, -, hsz, h0⟩ := hX
  exact lv_ldcf hx hby hown (hts _ hq) d (k H locs lsA hR hz hl hL)
theorem r_ldcw (hX : OK X D cc own nL) {idx : Nat} {v : Int32} (hq : Cond.constant own idx v ∈ TW) (d : decode cc pc = .ok (.ldc_w idx, 3)) (k : J X D nL c w G I L (pc + 3) ls (.int v :: st)) : J X D nL c w G I L pc ls st := by
  obtain ⟨p, l, e, R, s, m, args, below, meth, c0, Q⟩ := X
  intro H locs lsA hR hz hl hL
  obtain ⟨hx, hby, -, hown, hts, hF, -, hsz, h0⟩ := hX
  exact lv_ldcw hx hby hown (hts _ hq) d (k H locs lsA hR hz hl hL)
theorem r_ldc (hX : OK X D cc own nL) {idx : Nat} {v : Int32} (hq : Cond.constant own idx v ∈ TW) (d : decode cc pc = .ok (.ldc idx, 2)) (k : J X D nL c w G I L (pc + 2) ls (.int v :: st)) : J X D nL c w G I L pc ls st := by
  obtain ⟨p, l, e, R, s, m, args, below, meth, c0, Q⟩ := X
  intro H locs lsA hR hz hl hL
  obtain ⟨hx, hby, -, hown, hts, hF, -, hsz, h0⟩ := hX
  exact lv_ldc hx hby hown (hts _ hq) d (k H locs lsA hR hz hl hL)
theorem r_lcmp (hX : OK X D cc own nL) {x y : Int64} (d : decode cc pc = .ok (.lcmp, 1)) (k : J X D nL c w G I L (pc + 1) ls (.int (lg_cmp x y) :: st)) : J X D nL c w G I L pc ls (.long y :: .long x :: st) := by
  obtain ⟨p, l, e, R, s, m, args, below, meth, c0, Q⟩ := X
  intro H locs lsA hR hz hl hL
  exact W.lcmp hX.1 hX.2.1 d (k H locs lsA hR hz hl hL)
/-- two constants of one enum, by their codes -/
theorem r_acmpC (hX : OK X D cc own nL) {x y : Nat} {off : Int} {tgt : Nat} (hx25 : x < 25) (hy25 : y < 25) (d : decode cc pc = .ok (.if_acmp .ne off, 3)) (ht : (pc : Int) + off = (tgt : Int)) (kt : x ≠ y → J X D nL c w G I L tgt ls st) (kf : x = y → J X D nL c w G I L (pc + 3) ls st) : J X D nL c w G I L pc ls (.ref (1000000 + y) :: .ref (1000000 + x) :: st) := by
  obtain ⟨p, l, e, R, s, m, args, below, meth, c0, Q⟩ := X
  intro H locs lsA hR hz hl hL
  obtain ⟨hx, hby, -, hown, hts, hF, -, hsz, h0⟩ := hX
  refine lv_acmp_ne (rx := some (ta D (1000000 + x))) (ry := some (ta D (1000000 + y))) hx hby d ht (fun h => kt (fun e => h (by rw [e])) H locs lsA hR hz hl hL) (fun h => kf ?_ H locs lsA hR hz hl hL)
  exact hF.2.2.2.2.2.2.2.2.1 x hx25 y hy25 (Option.some.inj h)
theorem r_acmpCe (hX : OK X D cc own nL) {x y : Nat} {off : Int} {tgt : Nat} (hx25 : x < 25) (hy25 : y < 25) (d : decode cc pc = .ok (.if_acmp .eq off, 3)) (ht : (pc : Int) + off = (tgt : Int)) (kt : x = y → J X D nL c w G I L tgt ls st) (kf : x ≠ y → J X D nL c w G I L (pc + 3) ls st) : J X D nL c w G I L pc ls (.ref (1000000 + y) :: .ref (1000000 + x) :: st) := by
  obtain ⟨p, l, e, R, s, m, args, below, meth, c0, Q⟩ := X
  intro H locs lsA hR hz hl hL
  obtain ⟨hx, hby, -, hown, hts, hF, -, hsz, h0⟩ := hX
  refine lv_acmp_eq (rx := some (ta D (1000000 + x))) (ry := some (ta D (1000000 + y))) hx hby d ht (fun h => kt ?_ H locs lsA hR hz hl hL) (fun h => kf (fun e => h (by rw [e])) H locs lsA hR hz hl hL)
  exact hF.2.2.2.2.2.2.2.2.1 x hx25 y hy25 (Option.some.inj h)
/-- the formatter that the bounds' checks are handed: null or some reference -/
theorem r_getsZ (hX : OK X D cc own nL) {idx : Nat} (hlink : Cond.fieldLink own idx "jdk/internal/util/Preconditions" "SIOOBE_FORMATTER" "Ljava/util/function/BiFunction;" ∈ TW) (d : decode cc pc = .ok (.getstatic idx, 3)) (k1 : J X D nL c w G I L (pc + 3) ls (.null :: st)) (k2 : J X D nL c w G I L (pc + 3) ls (.ref 1000034 :: st)) : J X D nL c w G I L pc ls st := by
  obtain ⟨p, l, e, R, s, m, args, below, meth, c0, Q⟩ := X
  intro H locs lsA hR hz hl hL
  obtain ⟨hx, hby, -, hown, hts, hF, -, hsz, h0⟩ := hX
  rcases hF.2.2.2.2.2.2.2.2.2 with h | h
  · exact va_gets hx hby (h.kept (old_kept h0)) (Facts.S h0 hR hz hl) hown (hts _ hlink) (fun _ h => h) d (k1 H locs lsA hR hz hl hL)
  · exact va_gets hx hby (h.kept (old_kept h0)) (Facts.S h0 hR hz hl) hown (hts _ hlink) (fun _ h => h) d (k2 H locs lsA hR hz hl hL)
end New
