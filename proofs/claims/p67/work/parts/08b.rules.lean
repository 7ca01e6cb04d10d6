/-! ===== what is known of the start, at every method's start ===== -/
def Facts (D : DT) (U : State) : Prop :=
  va_K (D.2.2.1, D.2.2.2.1) vwCl (tysL D) U ∧ (∀ q ∈ cZ, va_Z q.1 q.2.1 q.2.2.1 (tv D q.2.2.2) (Ad D) U D.2.1) ∧ (∀ q ∈ cF, va_OF q.1 q.2.1 q.2.2.1 (tv D q.2.2.2.1) (ta D (1000000 + q.2.2.2.2)) (Ad D) U D.2.1) ∧ (∀ q ∈ cO, va_O q.1 (ta D (1000000 + q.2)) (Ad D) U D.2.1) ∧ (∀ q ∈ cT, va_T q.1 (ta D (1000000 + q.2.1)) q.2.2.1 (fun j => tv D (vp_V q.2.2.2 j)) (Ad D) U D.2.1) ∧ (∀ q ∈ cS, vk_R q.1 q.2.1 q.2.2.1 (ta D (1000000 + q.2.2.2)) U) ∧ vx_Zq Bundle.tN "UNASSIGNED_STACK" Bundle.steD (Ad D) U D.2.1 ∧ vx_Zq Bundle.tN "SUPPRESSED_SENTINEL" Bundle.listD (Ad D) U D.2.1 ∧ (∀ i, i < 25 → ∀ j, j < 25 → ta D (1000000 + i) = ta D (1000000 + j) → i = j) ∧ (va_Z "jdk/internal/util/Preconditions" "SIOOBE_FORMATTER" "Ljava/util/function/BiFunction;" .null (Ad D) U D.2.1 ∨ va_Z "jdk/internal/util/Preconditions" "SIOOBE_FORMATTER" "Ljava/util/function/BiFunction;" (.ref (ta D 1000034)) (Ad D) U D.2.1)
theorem Facts.moved {D : DT} {u U : State} (hW : u.WarmedH U.vm) (h : Facts D u) : Facts D U := by
  obtain ⟨h1, h2, h3, h4, h5, h6, h7, h8, h9, h10⟩ := h
  exact ⟨va_K.moved hW.alike h1, fun q hq => va_Z.moved hW.alike (h2 q hq), fun q hq => va_OF.moved hW.alike (h3 q hq), fun q hq => va_O.moved hW.alike (h4 q hq), fun q hq => va_T.moved hW.alike (h5 q hq), fun q hq => vk_R.warm hW (h6 q hq), vx_Zq.moved hW.alike h7, vx_Zq.moved hW.alike h8, h9, h10.imp (va_Z.moved hW.alike) (va_Z.moved hW.alike)⟩
theorem Facts.calling {D : DT} {u : State} {g : JFrame} {mk : MethodId} {a : Array Value} (h : Facts D u) : Facts D (u.calling g mk a) := by
  obtain ⟨h1, h2, h3, h4, h5, h6, h7, h8, h9, h10⟩ := h
  have hv : u.vm.Alike (u.calling g mk a).vm := Vm.Alike.refl u.vm
  exact ⟨va_K.moved hv h1, fun q hq => va_Z.moved hv (h2 q hq), fun q hq => va_OF.moved hv (h3 q hq), fun q hq => va_O.moved hv (h4 q hq), fun q hq => va_T.moved hv (h5 q hq), fun q hq => vk_R.same rfl (h6 q hq), vx_Zq.moved hv h7, vx_Zq.moved hv h8, h9, h10.imp (va_Z.moved hv) (va_Z.moved hv)⟩
/-! ===== a method's frame, over the abstract memory ===== -/
abbrev XT : Type := Program × Launch × Env × Room × State × MethodId × Array Value × List Frame × Method × Code × (State → Prop)
def OK (X : XT) (D : DT) (cc : ByteArray) (own : String) (nL : Nat) : Prop := match X with
  | (p, l, e, R, s, m, args, below, meth, c, Q) => p.tables.exec = Jvm.exec ∧ c.code = cc ∧ c.maxLocals = nL ∧ s.vm.findClass own = some m.cls ∧ (∀ w ∈ TW, w.before args s = true) ∧ Facts D s ∧ meth.locks = false ∧ D.1 ≤ s.heap.size ∧ (∀ q, q < D.1 → s.heap[q]? = D.2.1[q]?)
def lprs (D : DT) : Nat → List Value → List (Nat × Value)
  | _, [] => []
  | i, v :: vs => match v with
    | .retAddr _ => lprs D (i + 1) vs
    | v => (i, tv D v) :: lprs D (i + 1) vs
def lsR (D : DT) (nL : Nat) (lsA : Array Slot) (ls : List Value) : Prop := ls.length = nL ∧ lv_has lsA nL (lprs D 0 ls)
def J (X : XT) (D : DT) (nL : Nat) (c w : Nat) (G : GT) (I : IT) (L : LT) (pc : Nat) (ls st : List Value) : Prop := match X with
  | (p, l, e, R, s, m, args, below, meth, c0, Q) => ∀ (H : Heap) (locs : List Loc) (lsA : Array Slot), Rel D G I L H → s.heap.size ≤ H.size → (∀ q ∈ locs, D.1 ≤ q.base) → lsR D nL lsA ls → W p l e R s m args below meth c0 H locs c w Q (F0 m pc lsA (st.map (tv D)))
theorem lprs_mem {D : DT} : ∀ (ls : List Value) (i k : Nat) (v : Value), ls[k]? = some v → (∀ r, v ≠ .retAddr r) → (i + k, tv D v) ∈ lprs D i ls := by
  intro ls
  induction ls with
  | nil => intro i k v h; simp at h
  | cons a l ih =>
    intro i k v h hv
    cases k with
    | zero =>
      simp at h
      subst h
      cases a <;> first | exact List.mem_cons_self | exact absurd rfl (hv _)
    | succ k =>
      have h1 := ih (i + 1) k v (by simpa using h) hv
      rw [show i + 1 + k = i + (k + 1) by omega] at h1
      cases a <;> first | exact List.mem_cons_of_mem _ h1 | exact h1
theorem lprs_of {D : DT} : ∀ (ls : List Value) (i : Nat) (q : Nat × Value), q ∈ lprs D i ls → ∃ k v, ls[k]? = some v ∧ (∀ r, v ≠ .retAddr r) ∧ q = (i + k, tv D v) := by
  intro ls
  induction ls with
  | nil => intro i q h; simp [lprs] at h
  | cons a l ih =>
    intro i q h
    have go : q ∈ lprs D (i + 1) l → ∃ k v, (a :: l)[k]? = some v ∧ (∀ r, v ≠ .retAddr r) ∧ q = (i + k, tv D v) := by
      intro h
      obtain ⟨k, v, h1, h2, h3⟩ := ih (i + 1) q h
      exact ⟨k + 1, v, by simpa using h1, h2, by rw [h3, show i + 1 + k = i + (k + 1) by omega]⟩
    have hd : ∀ v : Value, (∀ r, v ≠ .retAddr r) → a = v → q ∈ (i, tv D v) :: lprs D (i + 1) l → ∃ k v, (a :: l)[k]? = some v ∧ (∀ r, v ≠ .retAddr r) ∧ q = (i + k, tv D v) := by
      intro v hv e h
      rcases List.mem_cons.mp h with h | h
      · exact ⟨0, v, by rw [e]; rfl, hv, by rw [h]; rfl⟩
      · exact go h
    cases a with
    | retAddr r => exact go h
    | int x => exact hd _ (fun _ h => by cases h) rfl h
    | long x => exact hd _ (fun _ h => by cases h) rfl h
    | float x => exact hd _ (fun _ h => by cases h) rfl h
    | double x => exact hd _ (fun _ h => by cases h) rfl h
    | null => exact hd _ (fun _ h => by cases h) rfl h
    | ref x => exact hd _ (fun _ h => by cases h) rfl h
/-- a store into a local of one word: what lies there as the second half of another goes -/
def lset1 (ls : List Value) (i : Nat) (v : Value) : List Value := match i with
  | 0 => ls.set 0 v
  | j + 1 => match ls.getD j .null with
    | .long _ => (ls.set j (.retAddr 0)).set (j + 1) v
    | .double _ => (ls.set j (.retAddr 0)).set (j + 1) v
    | _ => ls.set (j + 1) v
def lset2 (ls : List Value) (i : Nat) (v : Value) : List Value := (lset1 ls i v).set (i + 1) (.retAddr 0)
theorem lset1_get {ls : List Value} {i k : Nat} {v u : Value} (h : (lset1 ls i v)[k]? = some u) (hu : ∀ r, u ≠ .retAddr r) : (k = i ∧ u = v) ∨ (k ≠ i ∧ ls[k]? = some u ∧ ¬ (k + 1 = i ∧ u.category = 2)) := by
  have hs : ∀ (l : List Value) (j : Nat) (x : Value), (l.set j x)[k]? = some u → (k = j ∧ u = x) ∨ (k ≠ j ∧ l[k]? = some u) := by
    intro l j x h
    rw [List.getElem?_set] at h
    by_cases e : j = k
    · rw [if_pos e] at h
      split at h
      · exact Or.inl ⟨e.symm, (Option.some.inj h).symm⟩
      · cases h
    · rw [if_neg e] at h
      exact Or.inr ⟨fun q => e q.symm, h⟩
  cases i with
  | zero =>
    rcases hs _ _ _ h with h | ⟨h1, h2⟩
    · exact Or.inl h
    · exact Or.inr ⟨h1, h2, fun q => by omega⟩
  | succ j =>
    have big : (k = j + 1 ∧ u = v) ∨ (k ≠ j + 1 ∧ k ≠ j ∧ ls[k]? = some u) → (k = j + 1 ∧ u = v) ∨ (k ≠ j + 1 ∧ ls[k]? = some u ∧ ¬ (k + 1 = j + 1 ∧ u.category = 2)) := by
      rintro (h | ⟨h1, h2, h3⟩)
      · exact Or.inl h
      · exact Or.inr ⟨h1, h3, fun q => by omega⟩
    have two : ((ls.set j (.retAddr 0)).set (j + 1) v)[k]? = some u → (k = j + 1 ∧ u = v) ∨ (k ≠ j + 1 ∧ k ≠ j ∧ ls[k]? = some u) := by
      intro h
      rcases hs _ _ _ h with h | ⟨h1, h2⟩
      · exact Or.inl h
      · rcases hs _ _ _ h2 with ⟨h3, h4⟩ | ⟨h3, h4⟩
        · exact absurd h4 (hu _)
        · exact Or.inr ⟨h1, h3, h4⟩
    have one : (∀ w, ls.getD j .null = w → w.category = 1) → (ls.set (j + 1) v)[k]? = some u → (k = j + 1 ∧ u = v) ∨ (k ≠ j + 1 ∧ ls[k]? = some u ∧ ¬ (k + 1 = j + 1 ∧ u.category = 2)) := by
      intro hc h
      rcases hs _ _ _ h with h | ⟨h1, h2⟩
      · exact Or.inl h
      · refine Or.inr ⟨h1, h2, fun q => ?_⟩
        have e : k = j := by omega
        subst e
        have h3 : ls.getD k .null = u := by rw [List.getD_eq_getElem?_getD, h2]; rfl
        have := hc u h3
        omega
    simp only [lset1] at h
    split at h
    · exact big (two h)
    · exact big (two h)
    · next h1 h2 =>
      refine one (fun w hw => ?_) h
      cases w with
      | long x => exact absurd hw (h1 x)
      | double x => exact absurd hw (h2 x)
      | _ => rfl
theorem lset1_len (ls : List Value) (i : Nat) (v : Value) : (lset1 ls i v).length = ls.length := by
  cases i with
  | zero => simp [lset1]
  | succ j => simp only [lset1]; split <;> simp
theorem lv_mono {ls : Array Slot} {nL : Nat} {l l' : List (Nat × Value)} (h : lv_has ls nL l) (hl : ∀ q ∈ l', q ∈ l) : lv_has ls nL l' := ⟨h.1, h.2.1, fun q hq => h.2.2 q (hl q hq)⟩
theorem lsR_get {D : DT} {nL : Nat} {lsA : Array Slot} {ls : List Value} (h : lsR D nL lsA ls) {i : Nat} {v : Value} (hi : ls[i]? = some v) (hv : ∀ r, v ≠ .retAddr r) : lsA[i]? = some (.val (tv D v)) := by
  have h1 := h.2.2.2 _ (lprs_mem (D := D) ls 0 i v hi hv)
  rw [Nat.zero_add] at h1
  exact h1
theorem lsR_set1 {D : DT} {nL : Nat} {lsA lsA' : Array Slot} {ls : List Value} {i : Nat} {v : Value} (h : lsR D nL lsA ls) (h' : lv_has lsA' nL ((i, tv D v) :: (lprs D 0 ls).filter (fun q => !(q.1 == i) && !(q.1 + 1 == i && q.2.category == 2)))) : lsR D nL lsA' (lset1 ls i v) := by
  refine ⟨by rw [lset1_len]; exact h.1, lv_mono h' fun q hq => ?_⟩
  obtain ⟨k, u, h1, h2, rfl⟩ := lprs_of _ _ _ hq
  rcases lset1_get h1 h2 with ⟨rfl, rfl⟩ | ⟨h3, h4, h5⟩
  · rw [Nat.zero_add]; exact List.mem_cons_self
  · refine List.mem_cons_of_mem _ (List.mem_filter.mpr ⟨lprs_mem ls 0 k u h4 h2, ?_⟩)
    simp only [Nat.zero_add, tv_cat, Bool.and_eq_true, Bool.not_eq_true', beq_eq_false_iff_ne, ne_eq, Bool.and_eq_false_imp, beq_iff_eq]
    exact ⟨h3, fun e => fun e2 => h5 ⟨e, e2⟩⟩
theorem lsR_set2 {D : DT} {nL : Nat} {lsA lsA' : Array Slot} {ls : List Value} {i : Nat} {v : Value} (h : lsR D nL lsA ls) (h' : lv_has lsA' nL ((i, tv D v) :: (lprs D 0 ls).filter (fun q => !(q.1 == i) && (!(q.1 == i + 1) && !(q.1 + 1 == i && q.2.category == 2))))) : lsR D nL lsA' (lset2 ls i v) := by
  refine ⟨by unfold lset2; rw [List.length_set, lset1_len]; exact h.1, lv_mono h' fun q hq => ?_⟩
  obtain ⟨k, u, h1, h2, rfl⟩ := lprs_of _ _ _ hq
  unfold lset2 at h1
  rw [List.getElem?_set] at h1
  by_cases e : i + 1 = k
  · rw [if_pos e] at h1
    split at h1
    · exact absurd (Option.some.inj h1).symm (h2 _)
    · cases h1
  · rw [if_neg e] at h1
    rcases lset1_get h1 h2 with ⟨rfl, rfl⟩ | ⟨h3, h4, h5⟩
    · rw [Nat.zero_add]; exact List.mem_cons_self
    · refine List.mem_cons_of_mem _ (List.mem_filter.mpr ⟨lprs_mem ls 0 k u h4 h2, ?_⟩)
      simp only [Nat.zero_add, tv_cat, Bool.and_eq_true, Bool.not_eq_true', beq_eq_false_iff_ne, ne_eq, Bool.and_eq_false_imp, beq_iff_eq]
      exact ⟨h3, fun q => e q.symm, fun e => fun e2 => h5 ⟨e, e2⟩⟩
section Rules
variable {X : XT} {D : DT} {cc : ByteArray} {own : String} {nL c w : Nat} {G : GT} {I : IT} {L : LT} {pc : Nat} {ls st : List Value}
theorem r_iconst (hX : OK X D cc own nL) {n : Int} {v : Int32} (d : decode cc pc = .ok (.iconst n, 1)) (hv : Int32.ofInt n = v) (k : J X D nL c w G I L (pc + 1) ls (.int v :: st)) : J X D nL c w G I L pc ls (st) := by
  obtain ⟨p, l, e, R, s, m, args, below, meth, c0, Q⟩ := X
  intro H locs lsA hR hz hl hL
  exact lv_iconst hX.1 hX.2.1 d hv (k H locs lsA hR hz hl hL)
theorem r_bipush (hX : OK X D cc own nL) {n : Int} {v : Int32} (d : decode cc pc = .ok (.bipush n, 2)) (hv : (Int8.ofInt n).toInt32 = v) (k : J X D nL c w G I L (pc + 2) ls (.int v :: st)) : J X D nL c w G I L pc ls (st) := by
  obtain ⟨p, l, e, R, s, m, args, below, meth, c0, Q⟩ := X
  intro H locs lsA hR hz hl hL
  exact lv_bipush hX.1 hX.2.1 d hv (k H locs lsA hR hz hl hL)
theorem r_sipush (hX : OK X D cc own nL) {n : Int} {v : Int32} (d : decode cc pc = .ok (.sipush n, 3)) (hv : (Int16.ofInt n).toInt32 = v) (k : J X D nL c w G I L (pc + 3) ls (.int v :: st)) : J X D nL c w G I L pc ls (st) := by
  obtain ⟨p, l, e, R, s, m, args, below, meth, c0, Q⟩ := X
  intro H locs lsA hR hz hl hL
  exact lv_sipush hX.1 hX.2.1 d hv (k H locs lsA hR hz hl hL)
theorem r_lconst (hX : OK X D cc own nL) {n : Fin 2} {v : Int64} (d : decode cc pc = .ok (.lconst n, 1)) (hv : Int64.ofNat (n : Nat) = v) (k : J X D nL c w G I L (pc + 1) ls (.long v :: st)) : J X D nL c w G I L pc ls (st) := by
  obtain ⟨p, l, e, R, s, m, args, below, meth, c0, Q⟩ := X
  intro H locs lsA hR hz hl hL
  exact lv_lconst hX.1 hX.2.1 d hv (k H locs lsA hR hz hl hL)
theorem r_null (hX : OK X D cc own nL) (d : decode cc pc = .ok (.aconst_null, 1)) (k : J X D nL c w G I L (pc + 1) ls (.null :: st)) : J X D nL c w G I L pc ls (st) := by
  obtain ⟨p, l, e, R, s, m, args, below, meth, c0, Q⟩ := X
  intro H locs lsA hR hz hl hL
  exact lv_null hX.1 hX.2.1 d (k H locs lsA hR hz hl hL)
theorem r_fconst0 (hX : OK X D cc own nL) (d : decode cc pc = .ok (.fconst 0, 1)) (k : J X D nL c w G I L (pc + 1) ls (.float FP.fconst0 :: st)) : J X D nL c w G I L pc ls (st) := by
  obtain ⟨p, l, e, R, s, m, args, below, meth, c0, Q⟩ := X
  intro H locs lsA hR hz hl hL
  exact lv_fconst0 hX.1 hX.2.1 d (k H locs lsA hR hz hl hL)
theorem r_fconst2 (hX : OK X D cc own nL) (d : decode cc pc = .ok (.fconst 2, 1)) (k : J X D nL c w G I L (pc + 1) ls (.float FP.fconst2 :: st)) : J X D nL c w G I L pc ls (st) := by
  obtain ⟨p, l, e, R, s, m, args, below, meth, c0, Q⟩ := X
  intro H locs lsA hR hz hl hL
  exact lv_fconst2 hX.1 hX.2.1 d (k H locs lsA hR hz hl hL)
theorem r_dconst0 (hX : OK X D cc own nL) (d : decode cc pc = .ok (.dconst 0, 1)) (k : J X D nL c w G I L (pc + 1) ls (.double FP.dconst0 :: st)) : J X D nL c w G I L pc ls (st) := by
  obtain ⟨p, l, e, R, s, m, args, below, meth, c0, Q⟩ := X
  intro H locs lsA hR hz hl hL
  exact lv_dconst0 hX.1 hX.2.1 d (k H locs lsA hR hz hl hL)
theorem r_iadd (hX : OK X D cc own nL) {x y : Int32} (d : decode cc pc = .ok (.iadd, 1)) (k : J X D nL c w G I L (pc + 1) ls (.int (x + y) :: st)) : J X D nL c w G I L pc ls (.int y :: .int x :: st) := by
  obtain ⟨p, l, e, R, s, m, args, below, meth, c0, Q⟩ := X
  intro H locs lsA hR hz hl hL
  exact lv_iadd hX.1 hX.2.1 d (k H locs lsA hR hz hl hL)
theorem r_isub (hX : OK X D cc own nL) {x y : Int32} (d : decode cc pc = .ok (.isub, 1)) (k : J X D nL c w G I L (pc + 1) ls (.int (x - y) :: st)) : J X D nL c w G I L pc ls (.int y :: .int x :: st) := by
  obtain ⟨p, l, e, R, s, m, args, below, meth, c0, Q⟩ := X
  intro H locs lsA hR hz hl hL
  exact lv_isub hX.1 hX.2.1 d (k H locs lsA hR hz hl hL)
theorem r_imul (hX : OK X D cc own nL) {x y : Int32} (d : decode cc pc = .ok (.imul, 1)) (k : J X D nL c w G I L (pc + 1) ls (.int (x * y) :: st)) : J X D nL c w G I L pc ls (.int y :: .int x :: st) := by
  obtain ⟨p, l, e, R, s, m, args, below, meth, c0, Q⟩ := X
  intro H locs lsA hR hz hl hL
  exact lv_imul hX.1 hX.2.1 d (k H locs lsA hR hz hl hL)
theorem r_iand (hX : OK X D cc own nL) {x y : Int32} (d : decode cc pc = .ok (.iand, 1)) (k : J X D nL c w G I L (pc + 1) ls (.int (x &&& y) :: st)) : J X D nL c w G I L pc ls (.int y :: .int x :: st) := by
  obtain ⟨p, l, e, R, s, m, args, below, meth, c0, Q⟩ := X
  intro H locs lsA hR hz hl hL
  exact lv_iand hX.1 hX.2.1 d (k H locs lsA hR hz hl hL)
theorem r_ior (hX : OK X D cc own nL) {x y : Int32} (d : decode cc pc = .ok (.ior, 1)) (k : J X D nL c w G I L (pc + 1) ls (.int (x ||| y) :: st)) : J X D nL c w G I L pc ls (.int y :: .int x :: st) := by
  obtain ⟨p, l, e, R, s, m, args, below, meth, c0, Q⟩ := X
  intro H locs lsA hR hz hl hL
  exact lv_ior hX.1 hX.2.1 d (k H locs lsA hR hz hl hL)
theorem r_ixor (hX : OK X D cc own nL) {x y : Int32} (d : decode cc pc = .ok (.ixor, 1)) (k : J X D nL c w G I L (pc + 1) ls (.int (x ^^^ y) :: st)) : J X D nL c w G I L pc ls (.int y :: .int x :: st) := by
  obtain ⟨p, l, e, R, s, m, args, below, meth, c0, Q⟩ := X
  intro H locs lsA hR hz hl hL
  exact lv_ixor hX.1 hX.2.1 d (k H locs lsA hR hz hl hL)
theorem r_ishl (hX : OK X D cc own nL) {x y : Int32} (d : decode cc pc = .ok (.ishl, 1)) (k : J X D nL c w G I L (pc + 1) ls (.int (x <<< (y &&& 31)) :: st)) : J X D nL c w G I L pc ls (.int y :: .int x :: st) := by
  obtain ⟨p, l, e, R, s, m, args, below, meth, c0, Q⟩ := X
  intro H locs lsA hR hz hl hL
  exact lv_ishl hX.1 hX.2.1 d (k H locs lsA hR hz hl hL)
theorem r_ishr (hX : OK X D cc own nL) {x y : Int32} (d : decode cc pc = .ok (.ishr, 1)) (k : J X D nL c w G I L (pc + 1) ls (.int (x >>> (y &&& 31)) :: st)) : J X D nL c w G I L pc ls (.int y :: .int x :: st) := by
  obtain ⟨p, l, e, R, s, m, args, below, meth, c0, Q⟩ := X
  intro H locs lsA hR hz hl hL
  exact lv_ishr hX.1 hX.2.1 d (k H locs lsA hR hz hl hL)
theorem r_idiv (hX : OK X D cc own nL) {x y : Int32} (d : decode cc pc = .ok (.idiv, 1)) (hne : ¬ y = 0) (k : J X D nL c w G I L (pc + 1) ls (.int (x / y) :: st)) : J X D nL c w G I L pc ls (.int y :: .int x :: st) := by
  obtain ⟨p, l, e, R, s, m, args, below, meth, c0, Q⟩ := X
  intro H locs lsA hR hz hl hL
  exact lv_idiv hX.1 hX.2.1 d hne (k H locs lsA hR hz hl hL)
theorem r_irem (hX : OK X D cc own nL) {x y : Int32} (d : decode cc pc = .ok (.irem, 1)) (hne : ¬ y = 0) (k : J X D nL c w G I L (pc + 1) ls (.int (x - x / y * y) :: st)) : J X D nL c w G I L pc ls (.int y :: .int x :: st) := by
  obtain ⟨p, l, e, R, s, m, args, below, meth, c0, Q⟩ := X
  intro H locs lsA hR hz hl hL
  exact lv_irem hX.1 hX.2.1 d hne (k H locs lsA hR hz hl hL)
theorem r_ineg (hX : OK X D cc own nL) {x : Int32} (d : decode cc pc = .ok (.ineg, 1)) (k : J X D nL c w G I L (pc + 1) ls (.int (-x) :: st)) : J X D nL c w G I L pc ls (.int x :: st) := by
  obtain ⟨p, l, e, R, s, m, args, below, meth, c0, Q⟩ := X
  intro H locs lsA hR hz hl hL
  exact lv_ineg hX.1 hX.2.1 d (k H locs lsA hR hz hl hL)
theorem r_i2l (hX : OK X D cc own nL) {x : Int32} {v : Int64} (d : decode cc pc = .ok (.i2l, 1)) (hv : x.toInt64 = v) (k : J X D nL c w G I L (pc + 1) ls (.long v :: st)) : J X D nL c w G I L pc ls (.int x :: st) := by
  obtain ⟨p, l, e, R, s, m, args, below, meth, c0, Q⟩ := X
  intro H locs lsA hR hz hl hL
  exact lv_i2l hX.1 hX.2.1 d hv (k H locs lsA hR hz hl hL)
theorem r_i2b (hX : OK X D cc own nL) {x : Int32} (d : decode cc pc = .ok (.i2b, 1)) (k : J X D nL c w G I L (pc + 1) ls (.int x.toInt8.toInt32 :: st)) : J X D nL c w G I L pc ls (.int x :: st) := by
  obtain ⟨p, l, e, R, s, m, args, below, meth, c0, Q⟩ := X
  intro H locs lsA hR hz hl hL
  exact lv_i2b hX.1 hX.2.1 d rfl (k H locs lsA hR hz hl hL)
theorem r_i2c (hX : OK X D cc own nL) {x : Int32} (d : decode cc pc = .ok (.i2c, 1)) (k : J X D nL c w G I L (pc + 1) ls (.int (x.toUInt32 % 65536).toInt32 :: st)) : J X D nL c w G I L pc ls (.int x :: st) := by
  obtain ⟨p, l, e, R, s, m, args, below, meth, c0, Q⟩ := X
  intro H locs lsA hR hz hl hL
  exact lv_i2c hX.1 hX.2.1 d rfl (k H locs lsA hR hz hl hL)
theorem r_i2f (hX : OK X D cc own nL) {x : Int32} (d : decode cc pc = .ok (.i2f, 1)) (k : J X D nL c w G I L (pc + 1) ls (.float (FP.i2f x) :: st)) : J X D nL c w G I L pc ls (.int x :: st) := by
  obtain ⟨p, l, e, R, s, m, args, below, meth, c0, Q⟩ := X
  intro H locs lsA hR hz hl hL
  exact lv_i2f hX.1 hX.2.1 d (k H locs lsA hR hz hl hL)
theorem r_i2d (hX : OK X D cc own nL) {x : Int32} (d : decode cc pc = .ok (.i2d, 1)) (k : J X D nL c w G I L (pc + 1) ls (.double (FP.i2d x) :: st)) : J X D nL c w G I L pc ls (.int x :: st) := by
  obtain ⟨p, l, e, R, s, m, args, below, meth, c0, Q⟩ := X
  intro H locs lsA hR hz hl hL
  exact lv_i2d hX.1 hX.2.1 d (k H locs lsA hR hz hl hL)
theorem r_f2d (hX : OK X D cc own nL) {x : UInt32} (d : decode cc pc = .ok (.f2d, 1)) (hn : vf_n64 (FP.f2d x)) (k : J X D nL c w G I L (pc + 1) ls (.double (FP.f2d x) :: st)) : J X D nL c w G I L pc ls (.float x :: st) := by
  obtain ⟨p, l, e, R, s, m, args, below, meth, c0, Q⟩ := X
  intro H locs lsA hR hz hl hL
  exact lv_f2d hX.1 hX.2.1 d hn (k H locs lsA hR hz hl hL)
theorem r_fmul (hX : OK X D cc own nL) {x y : UInt32} (d : decode cc pc = .ok (.fmul, 1)) (hn : vf_n32 (FP.fmul x y)) (k : J X D nL c w G I L (pc + 1) ls (.float (FP.fmul x y) :: st)) : J X D nL c w G I L pc ls (.float y :: .float x :: st) := by
  obtain ⟨p, l, e, R, s, m, args, below, meth, c0, Q⟩ := X
  intro H locs lsA hR hz hl hL
  exact lv_fmul hX.1 hX.2.1 d hn (k H locs lsA hR hz hl hL)
theorem r_fdiv (hX : OK X D cc own nL) {x y : UInt32} (d : decode cc pc = .ok (.fdiv, 1)) (hn : vf_n32 (FP.fdiv x y)) (k : J X D nL c w G I L (pc + 1) ls (.float (FP.fdiv x y) :: st)) : J X D nL c w G I L pc ls (.float y :: .float x :: st) := by
  obtain ⟨p, l, e, R, s, m, args, below, meth, c0, Q⟩ := X
  intro H locs lsA hR hz hl hL
  exact lv_fdiv hX.1 hX.2.1 d hn (k H locs lsA hR hz hl hL)
theorem r_dadd (hX : OK X D cc own nL) {x y : UInt64} (d : decode cc pc = .ok (.dadd, 1)) (hn : vf_n64 (FP.dadd x y)) (k : J X D nL c w G I L (pc + 1) ls (.double (FP.dadd x y) :: st)) : J X D nL c w G I L pc ls (.double y :: .double x :: st) := by
  obtain ⟨p, l, e, R, s, m, args, below, meth, c0, Q⟩ := X
  intro H locs lsA hR hz hl hL
  exact lv_dadd hX.1 hX.2.1 d hn (k H locs lsA hR hz hl hL)
theorem r_ddiv (hX : OK X D cc own nL) {x y : UInt64} (d : decode cc pc = .ok (.ddiv, 1)) (hn : vf_n64 (FP.ddiv x y)) (k : J X D nL c w G I L (pc + 1) ls (.double (FP.ddiv x y) :: st)) : J X D nL c w G I L pc ls (.double y :: .double x :: st) := by
  obtain ⟨p, l, e, R, s, m, args, below, meth, c0, Q⟩ := X
  intro H locs lsA hR hz hl hL
  exact lv_ddiv hX.1 hX.2.1 d hn (k H locs lsA hR hz hl hL)
theorem r_fcmp (hX : OK X D cc own nL) {x y : UInt32} {op : CmpOp} (d : decode cc pc = .ok (.fcmp op, 1)) (k : J X D nL c w G I L (pc + 1) ls (.int (Op.cmpValue (FP.fcmp x y) op) :: st)) : J X D nL c w G I L pc ls (.float y :: .float x :: st) := by
  obtain ⟨p, l, e, R, s, m, args, below, meth, c0, Q⟩ := X
  intro H locs lsA hR hz hl hL
  exact lv_fcmp hX.1 hX.2.1 d (k H locs lsA hR hz hl hL)
theorem r_dcmp (hX : OK X D cc own nL) {x y : UInt64} {op : CmpOp} (d : decode cc pc = .ok (.dcmp op, 1)) (k : J X D nL c w G I L (pc + 1) ls (.int (Op.cmpValue (FP.dcmp x y) op) :: st)) : J X D nL c w G I L pc ls (.double y :: .double x :: st) := by
  obtain ⟨p, l, e, R, s, m, args, below, meth, c0, Q⟩ := X
  intro H locs lsA hR hz hl hL
  exact lv_dcmp hX.1 hX.2.1 d (k H locs lsA hR hz hl hL)
theorem r_dup (hX : OK X D cc own nL) {v : Value} (d : decode cc pc = .ok (.dup, 1)) (hv : v.category = 1) (k : J X D nL c w G I L (pc + 1) ls (v :: v :: st)) : J X D nL c w G I L pc ls (v :: st) := by
  obtain ⟨p, l, e, R, s, m, args, below, meth, c0, Q⟩ := X
  intro H locs lsA hR hz hl hL
  exact lv_dup hX.1 hX.2.1 d (by rw [tv_cat]; exact hv) (k H locs lsA hR hz hl hL)
theorem r_pop (hX : OK X D cc own nL) {v : Value} (d : decode cc pc = .ok (.pop, 1)) (hv : v.category = 1) (k : J X D nL c w G I L (pc + 1) ls (st)) : J X D nL c w G I L pc ls (v :: st) := by
  obtain ⟨p, l, e, R, s, m, args, below, meth, c0, Q⟩ := X
  intro H locs lsA hR hz hl hL
  exact lv_pop hX.1 hX.2.1 d (by rw [tv_cat]; exact hv) (k H locs lsA hR hz hl hL)
theorem r_dup_x1 (hX : OK X D cc own nL) {va vb : Value} (d : decode cc pc = .ok (.dup_x1, 1)) (hv : va.category = 1) (hv2 : vb.category = 1) (k : J X D nL c w G I L (pc + 1) ls (va :: vb :: va :: st)) : J X D nL c w G I L pc ls (va :: vb :: st) := by
  obtain ⟨p, l, e, R, s, m, args, below, meth, c0, Q⟩ := X
  intro H locs lsA hR hz hl hL
  exact lv_dup_x1 hX.1 hX.2.1 d (by rw [tv_cat]; exact hv) (by rw [tv_cat]; exact hv2) (k H locs lsA hR hz hl hL)
theorem r_dup2 (hX : OK X D cc own nL) {va vb : Value} (d : decode cc pc = .ok (.dup2, 1)) (hv : va.category = 1) (hv2 : vb.category = 1) (k : J X D nL c w G I L (pc + 1) ls (va :: vb :: va :: vb :: st)) : J X D nL c w G I L pc ls (va :: vb :: st) := by
  obtain ⟨p, l, e, R, s, m, args, below, meth, c0, Q⟩ := X
  intro H locs lsA hR hz hl hL
  exact lv_dup2_11 hX.1 hX.2.1 d (by rw [tv_cat]; exact hv) (by rw [tv_cat]; exact hv2) (k H locs lsA hR hz hl hL)
theorem r_iload_n (hX : OK X D cc own nL) {j : Fin 4} {x : Int32} (d : decode cc pc = .ok (.iload_n j, 1)) (hi : ls[(j : Nat)]? = some (.int x)) (k : J X D nL c w G I L (pc + 1) ls (.int x :: st)) : J X D nL c w G I L pc ls st := by
  obtain ⟨p, l, e, R, s, m, args, below, meth, c0, Q⟩ := X
  intro H locs lsA hR hz hl hL
  exact lv_iload_n hX.1 hX.2.1 (i := (j : Nat)) d rfl (lsR_get hL hi (fun _ h => by cases h)) (k H locs lsA hR hz hl hL)
theorem r_iload (hX : OK X D cc own nL) {i : Nat} {x : Int32} (d : decode cc pc = .ok (.iload i, 2)) (hi : ls[i]? = some (.int x)) (k : J X D nL c w G I L (pc + 2) ls (.int x :: st)) : J X D nL c w G I L pc ls st := by
  obtain ⟨p, l, e, R, s, m, args, below, meth, c0, Q⟩ := X
  intro H locs lsA hR hz hl hL
  exact lv_iload hX.1 hX.2.1 d (lsR_get hL hi (fun _ h => by cases h)) (k H locs lsA hR hz hl hL)
theorem r_aload_n (hX : OK X D cc own nL) {j : Fin 4} {x : Nat} (d : decode cc pc = .ok (.aload_n j, 1)) (hi : ls[(j : Nat)]? = some (.ref x)) (k : J X D nL c w G I L (pc + 1) ls (.ref x :: st)) : J X D nL c w G I L pc ls st := by
  obtain ⟨p, l, e, R, s, m, args, below, meth, c0, Q⟩ := X
  intro H locs lsA hR hz hl hL
  exact lv_aload_n hX.1 hX.2.1 (i := (j : Nat)) d rfl (lsR_get hL hi (fun _ h => by cases h)) (k H locs lsA hR hz hl hL)
theorem r_aload (hX : OK X D cc own nL) {i : Nat} {x : Nat} (d : decode cc pc = .ok (.aload i, 2)) (hi : ls[i]? = some (.ref x)) (k : J X D nL c w G I L (pc + 2) ls (.ref x :: st)) : J X D nL c w G I L pc ls st := by
  obtain ⟨p, l, e, R, s, m, args, below, meth, c0, Q⟩ := X
  intro H locs lsA hR hz hl hL
  exact lv_aload hX.1 hX.2.1 d (lsR_get hL hi (fun _ h => by cases h)) (k H locs lsA hR hz hl hL)
theorem r_fload_n (hX : OK X D cc own nL) {j : Fin 4} {x : UInt32} (d : decode cc pc = .ok (.fload_n j, 1)) (hi : ls[(j : Nat)]? = some (.float x)) (k : J X D nL c w G I L (pc + 1) ls (.float x :: st)) : J X D nL c w G I L pc ls st := by
  obtain ⟨p, l, e, R, s, m, args, below, meth, c0, Q⟩ := X
  intro H locs lsA hR hz hl hL
  exact lv_fload_n hX.1 hX.2.1 (i := (j : Nat)) d rfl (lsR_get hL hi (fun _ h => by cases h)) (k H locs lsA hR hz hl hL)
theorem r_fload (hX : OK X D cc own nL) {i : Nat} {x : UInt32} (d : decode cc pc = .ok (.fload i, 2)) (hi : ls[i]? = some (.float x)) (k : J X D nL c w G I L (pc + 2) ls (.float x :: st)) : J X D nL c w G I L pc ls st := by
  obtain ⟨p, l, e, R, s, m, args, below, meth, c0, Q⟩ := X
  intro H locs lsA hR hz hl hL
  exact lv_fload hX.1 hX.2.1 d (lsR_get hL hi (fun _ h => by cases h)) (k H locs lsA hR hz hl hL)
theorem r_dload_n (hX : OK X D cc own nL) {j : Fin 4} {x : UInt64} (d : decode cc pc = .ok (.dload_n j, 1)) (hi : ls[(j : Nat)]? = some (.double x)) (k : J X D nL c w G I L (pc + 1) ls (.double x :: st)) : J X D nL c w G I L pc ls st := by
  obtain ⟨p, l, e, R, s, m, args, below, meth, c0, Q⟩ := X
  intro H locs lsA hR hz hl hL
  exact lv_dload_n hX.1 hX.2.1 (i := (j : Nat)) d rfl (lsR_get hL hi (fun _ h => by cases h)) (k H locs lsA hR hz hl hL)
theorem r_dload (hX : OK X D cc own nL) {i : Nat} {x : UInt64} (d : decode cc pc = .ok (.dload i, 2)) (hi : ls[i]? = some (.double x)) (k : J X D nL c w G I L (pc + 2) ls (.double x :: st)) : J X D nL c w G I L pc ls st := by
  obtain ⟨p, l, e, R, s, m, args, below, meth, c0, Q⟩ := X
  intro H locs lsA hR hz hl hL
  exact lv_dload hX.1 hX.2.1 d (lsR_get hL hi (fun _ h => by cases h)) (k H locs lsA hR hz hl hL)
theorem r_lload_n (hX : OK X D cc own nL) {j : Fin 4} {x : Int64} (d : decode cc pc = .ok (.lload_n j, 1)) (hi : ls[(j : Nat)]? = some (.long x)) (k : J X D nL c w G I L (pc + 1) ls (.long x :: st)) : J X D nL c w G I L pc ls st := by
  obtain ⟨p, l, e, R, s, m, args, below, meth, c0, Q⟩ := X
  intro H locs lsA hR hz hl hL
  exact lv_lload_n hX.1 hX.2.1 (i := (j : Nat)) d rfl (lsR_get hL hi (fun _ h => by cases h)) (k H locs lsA hR hz hl hL)
theorem r_lload (hX : OK X D cc own nL) {i : Nat} {x : Int64} (d : decode cc pc = .ok (.lload i, 2)) (hi : ls[i]? = some (.long x)) (k : J X D nL c w G I L (pc + 2) ls (.long x :: st)) : J X D nL c w G I L pc ls st := by
  obtain ⟨p, l, e, R, s, m, args, below, meth, c0, Q⟩ := X
  intro H locs lsA hR hz hl hL
  exact lv_lload hX.1 hX.2.1 d (lsR_get hL hi (fun _ h => by cases h)) (k H locs lsA hR hz hl hL)
theorem r_aload_nN (hX : OK X D cc own nL) {j : Fin 4} (d : decode cc pc = .ok (.aload_n j, 1)) (hi : ls[(j : Nat)]? = some .null) (k : J X D nL c w G I L (pc + 1) ls (.null :: st)) : J X D nL c w G I L pc ls st := by
  obtain ⟨p, l, e, R, s, m, args, below, meth, c0, Q⟩ := X
  intro H locs lsA hR hz hl hL
  exact lv_aload_nN hX.1 hX.2.1 (i := (j : Nat)) d rfl (lsR_get hL hi (fun _ h => by cases h)) (k H locs lsA hR hz hl hL)
theorem r_istore_n (hX : OK X D cc own nL) {j : Fin 4} {x : Int32} {ls' : List Value} (d : decode cc pc = .ok (.istore_n j, 1)) (hi : (j : Nat) < nL) (hs : lset1 ls (j : Nat) (.int x) = ls') (k : J X D nL c w G I L (pc + 1) ls' st) : J X D nL c w G I L pc ls (.int x :: st) := by
  obtain ⟨p, l, e, R, s, m, args, below, meth, c0, Q⟩ := X
  intro H locs lsA hR hz hl hL
  subst hs
  exact lv_istore_n hX.1 hX.2.1 (i := (j : Nat)) d rfl hL.2 hi rfl (fun lsA' h' => k H locs lsA' hR hz hl (lsR_set1 (v := .int x) hL h'))
theorem r_istore (hX : OK X D cc own nL) {i : Nat} {x : Int32} {ls' : List Value} (d : decode cc pc = .ok (.istore i, 2)) (hi : i < nL) (hs : lset1 ls i (.int x) = ls') (k : J X D nL c w G I L (pc + 2) ls' st) : J X D nL c w G I L pc ls (.int x :: st) := by
  obtain ⟨p, l, e, R, s, m, args, below, meth, c0, Q⟩ := X
  intro H locs lsA hR hz hl hL
  subst hs
  exact lv_istore hX.1 hX.2.1 d hL.2 hi rfl (fun lsA' h' => k H locs lsA' hR hz hl (lsR_set1 (v := .int x) hL h'))
theorem r_astore_n (hX : OK X D cc own nL) {j : Fin 4} {x : Nat} {ls' : List Value} (d : decode cc pc = .ok (.astore_n j, 1)) (hi : (j : Nat) < nL) (hs : lset1 ls (j : Nat) (.ref x) = ls') (k : J X D nL c w G I L (pc + 1) ls' st) : J X D nL c w G I L pc ls (.ref x :: st) := by
  obtain ⟨p, l, e, R, s, m, args, below, meth, c0, Q⟩ := X
  intro H locs lsA hR hz hl hL
  subst hs
  exact lv_astore_n hX.1 hX.2.1 (i := (j : Nat)) d rfl hL.2 hi rfl (fun lsA' h' => k H locs lsA' hR hz hl (lsR_set1 (v := .ref x) hL h'))
theorem r_astore (hX : OK X D cc own nL) {i : Nat} {x : Nat} {ls' : List Value} (d : decode cc pc = .ok (.astore i, 2)) (hi : i < nL) (hs : lset1 ls i (.ref x) = ls') (k : J X D nL c w G I L (pc + 2) ls' st) : J X D nL c w G I L pc ls (.ref x :: st) := by
  obtain ⟨p, l, e, R, s, m, args, below, meth, c0, Q⟩ := X
  intro H locs lsA hR hz hl hL
  subst hs
  exact lv_astore hX.1 hX.2.1 d hL.2 hi rfl (fun lsA' h' => k H locs lsA' hR hz hl (lsR_set1 (v := .ref x) hL h'))
theorem r_fstore_n (hX : OK X D cc own nL) {j : Fin 4} {x : UInt32} {ls' : List Value} (d : decode cc pc = .ok (.fstore_n j, 1)) (hi : (j : Nat) < nL) (hs : lset1 ls (j : Nat) (.float x) = ls') (k : J X D nL c w G I L (pc + 1) ls' st) : J X D nL c w G I L pc ls (.float x :: st) := by
  obtain ⟨p, l, e, R, s, m, args, below, meth, c0, Q⟩ := X
  intro H locs lsA hR hz hl hL
  subst hs
  exact lv_fstore_n hX.1 hX.2.1 (i := (j : Nat)) d rfl hL.2 hi rfl (fun lsA' h' => k H locs lsA' hR hz hl (lsR_set1 (v := .float x) hL h'))
theorem r_fstore (hX : OK X D cc own nL) {i : Nat} {x : UInt32} {ls' : List Value} (d : decode cc pc = .ok (.fstore i, 2)) (hi : i < nL) (hs : lset1 ls i (.float x) = ls') (k : J X D nL c w G I L (pc + 2) ls' st) : J X D nL c w G I L pc ls (.float x :: st) := by
  obtain ⟨p, l, e, R, s, m, args, below, meth, c0, Q⟩ := X
  intro H locs lsA hR hz hl hL
  subst hs
  exact lv_fstore hX.1 hX.2.1 d hL.2 hi rfl (fun lsA' h' => k H locs lsA' hR hz hl (lsR_set1 (v := .float x) hL h'))
theorem r_dstore_n (hX : OK X D cc own nL) {j : Fin 4} {x : UInt64} {ls' : List Value} (d : decode cc pc = .ok (.dstore_n j, 1)) (hi : (j : Nat) + 1 < nL) (hs : lset2 ls (j : Nat) (.double x) = ls') (k : J X D nL c w G I L (pc + 1) ls' st) : J X D nL c w G I L pc ls (.double x :: st) := by
  obtain ⟨p, l, e, R, s, m, args, below, meth, c0, Q⟩ := X
  intro H locs lsA hR hz hl hL
  subst hs
  exact lv_dstore_n hX.1 hX.2.1 (i := (j : Nat)) d rfl hL.2 hi rfl (fun lsA' h' => k H locs lsA' hR hz hl (lsR_set2 (v := .double x) hL h'))
theorem r_dstore (hX : OK X D cc own nL) {i : Nat} {x : UInt64} {ls' : List Value} (d : decode cc pc = .ok (.dstore i, 2)) (hi : i + 1 < nL) (hs : lset2 ls i (.double x) = ls') (k : J X D nL c w G I L (pc + 2) ls' st) : J X D nL c w G I L pc ls (.double x :: st) := by
  obtain ⟨p, l, e, R, s, m, args, below, meth, c0, Q⟩ := X
  intro H locs lsA hR hz hl hL
  subst hs
  exact lv_dstore hX.1 hX.2.1 d hL.2 hi rfl (fun lsA' h' => k H locs lsA' hR hz hl (lsR_set2 (v := .double x) hL h'))
theorem r_lstore_n (hX : OK X D cc own nL) {j : Fin 4} {x : Int64} {ls' : List Value} (d : decode cc pc = .ok (.lstore_n j, 1)) (hi : (j : Nat) + 1 < nL) (hs : lset2 ls (j : Nat) (.long x) = ls') (k : J X D nL c w G I L (pc + 1) ls' st) : J X D nL c w G I L pc ls (.long x :: st) := by
  obtain ⟨p, l, e, R, s, m, args, below, meth, c0, Q⟩ := X
  intro H locs lsA hR hz hl hL
  subst hs
  exact lv_lstore_n hX.1 hX.2.1 (i := (j : Nat)) d rfl hL.2 hi rfl (fun lsA' h' => k H locs lsA' hR hz hl (lsR_set2 (v := .long x) hL h'))
theorem r_lstore (hX : OK X D cc own nL) {i : Nat} {x : Int64} {ls' : List Value} (d : decode cc pc = .ok (.lstore i, 2)) (hi : i + 1 < nL) (hs : lset2 ls i (.long x) = ls') (k : J X D nL c w G I L (pc + 2) ls' st) : J X D nL c w G I L pc ls (.long x :: st) := by
  obtain ⟨p, l, e, R, s, m, args, below, meth, c0, Q⟩ := X
  intro H locs lsA hR hz hl hL
  subst hs
  exact lv_lstore hX.1 hX.2.1 d hL.2 hi rfl (fun lsA' h' => k H locs lsA' hR hz hl (lsR_set2 (v := .long x) hL h'))
theorem r_iinc (hX : OK X D cc own nL) {i : Nat} {n : Int} {x v : Int32} {ls' : List Value} (d : decode cc pc = .ok (.iinc i n, 3)) (hi : i < nL) (hg : ls[i]? = some (.int x)) (hv : x + Int32.ofInt n = v) (hs : lset1 ls i (.int v) = ls') (k : J X D nL c w G I L (pc + 3) ls' st) : J X D nL c w G I L pc ls st := by
  obtain ⟨p, l, e, R, s, m, args, below, meth, c0, Q⟩ := X
  intro H locs lsA hR hz hl hL
  subst hs
  obtain ⟨q, hq⟩ := List.getElem?_of_mem (lprs_mem (D := D) ls 0 i (.int x) hg (fun _ h => by cases h))
  rw [Nat.zero_add] at hq
  exact lv_iinc hX.1 hX.2.1 d hL.2 hq hv hi rfl (fun lsA' h' => k H locs lsA' hR hz hl (lsR_set1 (v := .int v) hL h'))
theorem r_if_eq (hX : OK X D cc own nL) {x : Int32} {off : Int} {tgt : Nat} (d : decode cc pc = .ok (.ifCond .eq off, 3)) (ht : (pc : Int) + off = (tgt : Int)) (kt : x = 0 → J X D nL c w G I L tgt ls st) (kf : ¬ x = 0 → J X D nL c w G I L (pc + 3) ls st) : J X D nL c w G I L pc ls (.int x :: st) := by
  obtain ⟨p, l, e, R, s, m, args, below, meth, c0, Q⟩ := X
  intro H locs lsA hR hz hl hL
  exact lv_if_eq hX.1 hX.2.1 d ht (fun h => kt h H locs lsA hR hz hl hL) (fun h => kf h H locs lsA hR hz hl hL)
theorem r_icmp_eq (hX : OK X D cc own nL) {x y : Int32} {off : Int} {tgt : Nat} (d : decode cc pc = .ok (.if_icmp .eq off, 3)) (ht : (pc : Int) + off = (tgt : Int)) (kt : x = y → J X D nL c w G I L tgt ls st) (kf : ¬ x = y → J X D nL c w G I L (pc + 3) ls st) : J X D nL c w G I L pc ls (.int y :: .int x :: st) := by
  obtain ⟨p, l, e, R, s, m, args, below, meth, c0, Q⟩ := X
  intro H locs lsA hR hz hl hL
  exact lv_icmp_eq hX.1 hX.2.1 d ht (fun h => kt h H locs lsA hR hz hl hL) (fun h => kf h H locs lsA hR hz hl hL)
theorem r_if_ne (hX : OK X D cc own nL) {x : Int32} {off : Int} {tgt : Nat} (d : decode cc pc = .ok (.ifCond .ne off, 3)) (ht : (pc : Int) + off = (tgt : Int)) (kt : ¬ x = 0 → J X D nL c w G I L tgt ls st) (kf : x = 0 → J X D nL c w G I L (pc + 3) ls st) : J X D nL c w G I L pc ls (.int x :: st) := by
  obtain ⟨p, l, e, R, s, m, args, below, meth, c0, Q⟩ := X
  intro H locs lsA hR hz hl hL
  exact lv_if_ne hX.1 hX.2.1 d ht (fun h => kt h H locs lsA hR hz hl hL) (fun h => kf h H locs lsA hR hz hl hL)
theorem r_icmp_ne (hX : OK X D cc own nL) {x y : Int32} {off : Int} {tgt : Nat} (d : decode cc pc = .ok (.if_icmp .ne off, 3)) (ht : (pc : Int) + off = (tgt : Int)) (kt : ¬ x = y → J X D nL c w G I L tgt ls st) (kf : x = y → J X D nL c w G I L (pc + 3) ls st) : J X D nL c w G I L pc ls (.int y :: .int x :: st) := by
  obtain ⟨p, l, e, R, s, m, args, below, meth, c0, Q⟩ := X
  intro H locs lsA hR hz hl hL
  exact lv_icmp_ne hX.1 hX.2.1 d ht (fun h => kt h H locs lsA hR hz hl hL) (fun h => kf h H locs lsA hR hz hl hL)
theorem r_if_lt (hX : OK X D cc own nL) {x : Int32} {off : Int} {tgt : Nat} (d : decode cc pc = .ok (.ifCond .lt off, 3)) (ht : (pc : Int) + off = (tgt : Int)) (kt : x < 0 → J X D nL c w G I L tgt ls st) (kf : ¬ x < 0 → J X D nL c w G I L (pc + 3) ls st) : J X D nL c w G I L pc ls (.int x :: st) := by
  obtain ⟨p, l, e, R, s, m, args, below, meth, c0, Q⟩ := X
  intro H locs lsA hR hz hl hL
  exact lv_if_lt hX.1 hX.2.1 d ht (fun h => kt h H locs lsA hR hz hl hL) (fun h => kf h H locs lsA hR hz hl hL)
theorem r_icmp_lt (hX : OK X D cc own nL) {x y : Int32} {off : Int} {tgt : Nat} (d : decode cc pc = .ok (.if_icmp .lt off, 3)) (ht : (pc : Int) + off = (tgt : Int)) (kt : x < y → J X D nL c w G I L tgt ls st) (kf : ¬ x < y → J X D nL c w G I L (pc + 3) ls st) : J X D nL c w G I L pc ls (.int y :: .int x :: st) := by
  obtain ⟨p, l, e, R, s, m, args, below, meth, c0, Q⟩ := X
  intro H locs lsA hR hz hl hL
  exact lv_icmp_lt hX.1 hX.2.1 d ht (fun h => kt h H locs lsA hR hz hl hL) (fun h => kf h H locs lsA hR hz hl hL)
theorem r_if_ge (hX : OK X D cc own nL) {x : Int32} {off : Int} {tgt : Nat} (d : decode cc pc = .ok (.ifCond .ge off, 3)) (ht : (pc : Int) + off = (tgt : Int)) (kt : 0 ≤ x → J X D nL c w G I L tgt ls st) (kf : ¬ 0 ≤ x → J X D nL c w G I L (pc + 3) ls st) : J X D nL c w G I L pc ls (.int x :: st) := by
  obtain ⟨p, l, e, R, s, m, args, below, meth, c0, Q⟩ := X
  intro H locs lsA hR hz hl hL
  exact lv_if_ge hX.1 hX.2.1 d ht (fun h => kt h H locs lsA hR hz hl hL) (fun h => kf h H locs lsA hR hz hl hL)
theorem r_icmp_ge (hX : OK X D cc own nL) {x y : Int32} {off : Int} {tgt : Nat} (d : decode cc pc = .ok (.if_icmp .ge off, 3)) (ht : (pc : Int) + off = (tgt : Int)) (kt : y ≤ x → J X D nL c w G I L tgt ls st) (kf : ¬ y ≤ x → J X D nL c w G I L (pc + 3) ls st) : J X D nL c w G I L pc ls (.int y :: .int x :: st) := by
  obtain ⟨p, l, e, R, s, m, args, below, meth, c0, Q⟩ := X
  intro H locs lsA hR hz hl hL
  exact lv_icmp_ge hX.1 hX.2.1 d ht (fun h => kt h H locs lsA hR hz hl hL) (fun h => kf h H locs lsA hR hz hl hL)
theorem r_if_gt (hX : OK X D cc own nL) {x : Int32} {off : Int} {tgt : Nat} (d : decode cc pc = .ok (.ifCond .gt off, 3)) (ht : (pc : Int) + off = (tgt : Int)) (kt : 0 < x → J X D nL c w G I L tgt ls st) (kf : ¬ 0 < x → J X D nL c w G I L (pc + 3) ls st) : J X D nL c w G I L pc ls (.int x :: st) := by
  obtain ⟨p, l, e, R, s, m, args, below, meth, c0, Q⟩ := X
  intro H locs lsA hR hz hl hL
  exact lv_if_gt hX.1 hX.2.1 d ht (fun h => kt h H locs lsA hR hz hl hL) (fun h => kf h H locs lsA hR hz hl hL)
theorem r_icmp_gt (hX : OK X D cc own nL) {x y : Int32} {off : Int} {tgt : Nat} (d : decode cc pc = .ok (.if_icmp .gt off, 3)) (ht : (pc : Int) + off = (tgt : Int)) (kt : y < x → J X D nL c w G I L tgt ls st) (kf : ¬ y < x → J X D nL c w G I L (pc + 3) ls st) : J X D nL c w G I L pc ls (.int y :: .int x :: st) := by
  obtain ⟨p, l, e, R, s, m, args, below, meth, c0, Q⟩ := X
  intro H locs lsA hR hz hl hL
  exact lv_icmp_gt hX.1 hX.2.1 d ht (fun h => kt h H locs lsA hR hz hl hL) (fun h => kf h H locs lsA hR hz hl hL)
theorem r_if_le (hX : OK X D cc own nL) {x : Int32} {off : Int} {tgt : Nat} (d : decode cc pc = .ok (.ifCond .le off, 3)) (ht : (pc : Int) + off = (tgt : Int)) (kt : x ≤ 0 → J X D nL c w G I L tgt ls st) (kf : ¬ x ≤ 0 → J X D nL c w G I L (pc + 3) ls st) : J X D nL c w G I L pc ls (.int x :: st) := by
  obtain ⟨p, l, e, R, s, m, args, below, meth, c0, Q⟩ := X
  intro H locs lsA hR hz hl hL
  exact lv_if_le hX.1 hX.2.1 d ht (fun h => kt h H locs lsA hR hz hl hL) (fun h => kf h H locs lsA hR hz hl hL)
theorem r_icmp_le (hX : OK X D cc own nL) {x y : Int32} {off : Int} {tgt : Nat} (d : decode cc pc = .ok (.if_icmp .le off, 3)) (ht : (pc : Int) + off = (tgt : Int)) (kt : x ≤ y → J X D nL c w G I L tgt ls st) (kf : ¬ x ≤ y → J X D nL c w G I L (pc + 3) ls st) : J X D nL c w G I L pc ls (.int y :: .int x :: st) := by
  obtain ⟨p, l, e, R, s, m, args, below, meth, c0, Q⟩ := X
  intro H locs lsA hR hz hl hL
  exact lv_icmp_le hX.1 hX.2.1 d ht (fun h => kt h H locs lsA hR hz hl hL) (fun h => kf h H locs lsA hR hz hl hL)
theorem r_goto (hX : OK X D cc own nL) {off : Int} {tgt : Nat} (d : decode cc pc = .ok (.goto off, 3)) (ht : (pc : Int) + off = (tgt : Int)) (k : J X D nL c w G I L tgt ls st) : J X D nL c w G I L pc ls st := by
  obtain ⟨p, l, e, R, s, m, args, below, meth, c0, Q⟩ := X
  intro H locs lsA hR hz hl hL
  exact lv_goto hX.1 hX.2.1 d ht (k H locs lsA hR hz hl hL)
theorem r_tableIn (hX : OK X D cc own nL) {dflt lo hi : Int} {offs : Array Int} {len : Nat} {x : Int32} {off : Int} {tgt : Nat} (d : decode cc pc = .ok (.tableswitch dflt lo hi offs, len)) (h1 : ¬ x.toInt < lo) (h2 : ¬ hi < x.toInt) (ho : offs[(x.toInt - lo).toNat]? = some off) (ht : (pc : Int) + off = (tgt : Int)) (k : J X D nL c w G I L tgt ls st) : J X D nL c w G I L pc ls (.int x :: st) := by
  obtain ⟨p, l, e, R, s, m, args, below, meth, c0, Q⟩ := X
  intro H locs lsA hR hz hl hL
  exact lv_tableIn hX.1 hX.2.1 d h1 h2 ho ht (k H locs lsA hR hz hl hL)
theorem r_tableOut (hX : OK X D cc own nL) {dflt lo hi : Int} {offs : Array Int} {len : Nat} {x : Int32} {tgt : Nat} (d : decode cc pc = .ok (.tableswitch dflt lo hi offs, len)) (h1 : x.toInt < lo ∨ hi < x.toInt) (ht : (pc : Int) + dflt = (tgt : Int)) (k : J X D nL c w G I L tgt ls st) : J X D nL c w G I L pc ls (.int x :: st) := by
  obtain ⟨p, l, e, R, s, m, args, below, meth, c0, Q⟩ := X
  intro H locs lsA hR hz hl hL
  exact lv_tableOut hX.1 hX.2.1 d h1 ht (k H locs lsA hR hz hl hL)
theorem r_lookup (hX : OK X D cc own nL) {dflt : Int} {ps : Array (Int × Int)} {len : Nat} {x : Int32} {off : Int} {tgt : Nat} (d : decode cc pc = .ok (.lookupswitch dflt ps, len)) (hp : (ps.toList.zip (ps.toList.drop 1)).all (fun (a, next) => a.1 < next.1) = true) (ho : Op.lookupswitch.offset ps.toList dflt x.toInt = off) (ht : (pc : Int) + off = (tgt : Int)) (k : J X D nL c w G I L tgt ls st) : J X D nL c w G I L pc ls (.int x :: st) := by
  obtain ⟨p, l, e, R, s, m, args, below, meth, c0, Q⟩ := X
  intro H locs lsA hR hz hl hL
  exact lv_lookup hX.1 hX.2.1 d hp ho ht (k H locs lsA hR hz hl hL)
theorem r_iushr (hX : OK X D cc own nL) {x y v : Int32} (d : decode cc pc = .ok (.iushr, 1)) (hv : (x.toUInt32 >>> (y.toUInt32 &&& Int32.toUInt32 31)).toInt32 = v) (k : J X D nL c w G I L (pc + 1) ls (.int v :: st)) : J X D nL c w G I L pc ls (.int y :: .int x :: st) := by
  obtain ⟨p, l, e, R, s, m, args, below, meth, c0, Q⟩ := X
  intro H locs lsA hR hz hl hL
  exact lv_iushr hX.1 hX.2.1 d hv (k H locs lsA hR hz hl hL)
theorem r_f2i (hX : OK X D cc own nL) {x : UInt32} (d : decode cc pc = .ok (.f2i, 1)) (k : J X D nL c w G I L (pc + 1) ls (.int (FP.f2i x) :: st)) : J X D nL c w G I L pc ls (.float x :: st) := by
  obtain ⟨p, l, e, R, s, m, args, below, meth, c0, Q⟩ := X
  intro H locs lsA hR hz hl hL
  exact lv_f2i hX.1 hX.2.1 d (k H locs lsA hR hz hl hL)
theorem r_fadd (hX : OK X D cc own nL) {x y : UInt32} (d : decode cc pc = .ok (.fadd, 1)) (hn : vf_n32 (FP.fadd x y)) (k : J X D nL c w G I L (pc + 1) ls (.float (FP.fadd x y) :: st)) : J X D nL c w G I L pc ls (.float y :: .float x :: st) := by
  obtain ⟨p, l, e, R, s, m, args, below, meth, c0, Q⟩ := X
  intro H locs lsA hR hz hl hL
  exact lv_fadd hX.1 hX.2.1 d hn (k H locs lsA hR hz hl hL)
theorem r_fsub (hX : OK X D cc own nL) {x y : UInt32} (d : decode cc pc = .ok (.fsub, 1)) (hn : vf_n32 (FP.fsub x y)) (k : J X D nL c w G I L (pc + 1) ls (.float (FP.fsub x y) :: st)) : J X D nL c w G I L pc ls (.float y :: .float x :: st) := by
  obtain ⟨p, l, e, R, s, m, args, below, meth, c0, Q⟩ := X
  intro H locs lsA hR hz hl hL
  exact lv_fsub hX.1 hX.2.1 d hn (k H locs lsA hR hz hl hL)
end Rules
