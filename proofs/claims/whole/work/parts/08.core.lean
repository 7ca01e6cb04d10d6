/-! ===== the abstract memory ===== -/
abbrev GT : Type := Nat × (Nat → Nat × Nat) × (Nat → Nat → Option Nat)
abbrev IT : Type := Nat → Nat → Int32
abbrev LT : Type := (Nat → Nat → Int64) × (Nat → Nat → UInt64)
abbrev Res : Type := Option Value ⊕ String
/-- start of the new cells, the old heap, classes, their slots, array classes, addresses of constants -/
abbrev DT : Type := Nat × Heap × (Nat → ClassId) × (Nat → Nat → Nat) × (Nat → ClassId) × (Nat → Nat)
def ta (D : DT) (k : Nat) : Nat := if k < 1000000 then D.1 + k else D.2.2.2.2.2 (k - 1000000)
def tv (D : DT) (v : Value) : Value := match v with
  | .ref k => .ref (ta D k)
  | v => v
theorem tv_rf (D : DT) (r : Option Nat) : tv D (va_rf r) = va_rf (r.map (ta D)) := by cases r <;> rfl
theorem tv_cat (D : DT) (v : Value) : (tv D v).category = v.category := by cases v <;> rfl
theorem ta_lt (D : DT) {k : Nat} (h : k < 1000000) : ta D k = D.1 + k := if_pos h
def refFields : List (List Nat) := [[0], [0], [0, 1, 2, 3, 5], [0, 1, 2, 3, 5], [0, 1, 2], [0, 1, 2], [0, 1, 2, 3, 4], [0, 1], [0, 1, 2, 3, 4], [0, 1, 2, 3, 4, 5, 6], [1, 5, 7, 13]]
def isR (ci j : Nat) : Bool := (refFields.getD ci []).contains j
def fval (D : DT) (R : Nat → Nat → Option Nat) (I : IT) (ci k j : Nat) : Value := if isR ci j = true then va_rf ((R k j).map (ta D)) else .int (I k j)
def arrTy : Nat → FieldType := fun t => match t with
  | 0 => .byte
  | 1 => .char
  | 2 => .int
  | 3 => .boolean
  | 4 => .object "TeaHouse$House"
  | 5 => .long
  | _ => .double
def arrV4 (D : DT) (G : GT) (I : IT) (L : LT) (t k : Nat) : (Nat → Int32) ⊕ (Nat → Int64) ⊕ (Nat → UInt32) ⊕ (Nat → UInt64) ⊕ (Nat → Option Nat) :=
  if t < 4 then .inl (I k) else if t = 4 then .inr (.inr (.inr (.inr (fun j => (G.2.2 k j).map (ta D))))) else if t = 5 then .inr (.inl (L.1 k)) else .inr (.inr (.inr (.inl (L.2 k))))
/-- cell k of the new ones, as it lies in the heap -/
def CR (D : DT) (G : GT) (I : IT) (L : LT) (H : Heap) (k : Nat) : Prop :=
  if (G.2.1 k).1 < 20 then ∃ r, vwCl[(G.2.1 k).1]? = some r ∧ t_OB (D.1 + k) (D.2.2.1 (G.2.1 k).1) r.2.2 (D.2.2.2.1 (G.2.1 k).1) H (fval D G.2.2 I (G.2.1 k).1 k)
  else if (G.2.1 k).1 < 27 then H[D.1 + k]? = some (vp_cell (D.2.2.2.2.1 ((G.2.1 k).1 - 20)) ((G.2.1 k).2, arrV4 D G I L ((G.2.1 k).1 - 20) k))
  else True
def Rel (D : DT) (G : GT) (I : IT) (L : LT) (H : Heap) : Prop := H.size = D.1 + G.1 ∧ G.1 < 1000000 ∧ (∀ q, q < D.1 → H[q]? = D.2.1[q]?) ∧ ∀ k, k < G.1 → CR D G I L H k
def Ad (D : DT) : Nat → Prop := fun q => D.1 ≤ q
def tysL (D : DT) : List (ClassId × FieldType) := [(D.2.2.2.2.1 0, arrTy 0), (D.2.2.2.2.1 1, arrTy 1), (D.2.2.2.2.1 2, arrTy 2), (D.2.2.2.2.1 3, arrTy 3), (D.2.2.2.2.1 4, arrTy 4), (D.2.2.2.2.1 5, arrTy 5), (D.2.2.2.2.1 6, arrTy 6)]
theorem tysL_at (D : DT) {t : Nat} (h : t < 7) : (tysL D)[t]? = some (D.2.2.2.2.1 t, arrTy t) := by
  match t, h with
  | 0, _ => rfl
  | 1, _ => rfl
  | 2, _ => rfl
  | 3, _ => rfl
  | 4, _ => rfl
  | 5, _ => rfl
  | 6, _ => rfl
def TW : List Cond := lw_tbl.filter goodWord
theorem TW_good {w : Cond} (h : w ∈ TW) : goodWord w = true := (List.mem_filter.mp h).2
theorem TW_of {i : Nat} {w : Cond} (h : lw_tbl[i]? = some w) (g : goodWord w = true) : w ∈ TW := List.mem_filter.mpr ⟨List.mem_of_getElem? h, g⟩
theorem TW_warm {args a' : Array Value} {s U : State} (hW : s.WarmedH U.vm) {w : Cond} (hw : w ∈ TW) (h : w.before args s = true) : w.before a' U = true := word_at hW (good_of_word (TW_good hw)) h
/-! what the tables say of the classes -/
theorem vw_ty : ∀ (ci : Nat) (r : vw_C), vwCl[ci]? = some r → ∃ ty : Nat → FieldType, ∀ k, k < r.2.2 → parseFieldDescriptor (r.2.1 k).2.2.1 = some (ty k) := by
  intro ci r h
  match ci, h with
  | 0, h => cases h; exact ⟨_, tyJ0_ok⟩
  | 1, h => cases h; exact ⟨_, tyJ4_ok⟩
  | 2, h => cases h; exact ⟨_, tyJx00060_ok⟩
  | 3, h => cases h; exact ⟨_, tyJx7c733_ok⟩
  | 4, h => cases h; exact ⟨_, tyX1_ok⟩
  | 5, h => cases h; exact ⟨_, tyX2_ok⟩
  | 6, h => cases h; exact ⟨_, tyX3_ok⟩
  | 7, h => cases h; exact ⟨_, tyX4_ok⟩
  | 8, h => cases h; exact ⟨_, tyX5_ok⟩
  | 9, h => cases h; exact ⟨_, tyX8_ok⟩
  | 10, h => cases h; exact ⟨_, tyX9_ok⟩
  | n + 11, h => simp [vwCl] at h
theorem vw_nm : ∀ (ci : Nat) (r : vw_C), vwCl[ci]? = some r → ∀ a, a < r.2.2 → ∀ b, b < r.2.2 → a ≠ b → (r.2.1 a).2.1 ≠ (r.2.1 b).2.1 := by
  intro ci r h
  match ci, h with
  | 0, h => cases h; exact nmJ0
  | 1, h => cases h; exact nmJ4
  | 2, h => cases h; exact nmJx00060
  | 3, h => cases h; exact nmJx7c733
  | 4, h => cases h; exact nmX1
  | 5, h => cases h; exact nmX2
  | 6, h => cases h; exact nmX3
  | 7, h => cases h; exact nmX4
  | 8, h => cases h; exact nmX5
  | 9, h => cases h; exact nmX8
  | 10, h => cases h; exact nmX9
  | n + 11, h => simp [vwCl] at h
set_option maxRecDepth 100000 in
theorem vw_in : ∀ (ci : Nat) (r : vw_C), vwCl[ci]? = some r → ∀ w ∈ u_ws r.1 r.2.1 r.2.2, w ∈ TW := by
  intro ci r h
  have key : ∀ L : List Cond, (∀ w ∈ L, w ∈ lw_tbl) → (L.all goodWord = true) → ∀ w ∈ L, w ∈ TW := fun L h1 h2 w hw => List.mem_filter.mpr ⟨h1 w hw, List.all_eq_true.mp h2 w hw⟩
  match ci, h with
  | 0, h => cases h; exact key _ (by decide +kernel) (by decide +kernel)
  | 1, h => cases h; exact key _ (by decide +kernel) (by decide +kernel)
  | 2, h => cases h; exact key _ (by decide +kernel) (by decide +kernel)
  | 3, h => cases h; exact key _ (by decide +kernel) (by decide +kernel)
  | 4, h => cases h; exact key _ (by decide +kernel) (by decide +kernel)
  | 5, h => cases h; exact key _ (by decide +kernel) (by decide +kernel)
  | 6, h => cases h; exact key _ (by decide +kernel) (by decide +kernel)
  | 7, h => cases h; exact key _ (by decide +kernel) (by decide +kernel)
  | 8, h => cases h; exact key _ (by decide +kernel) (by decide +kernel)
  | 9, h => cases h; exact key _ (by decide +kernel) (by decide +kernel)
  | 10, h => cases h; exact key _ (by decide +kernel) (by decide +kernel)
  | n + 11, h => simp [vwCl] at h
/-! ===== what is known of the start, at every method's start ===== -/
def Facts (D : DT) (U : State) : Prop :=
  va_K (D.2.2.1, D.2.2.2.1) vwCl (tysL D) U ∧ (∀ q ∈ cZ, va_Z q.1 q.2.1 q.2.2.1 (tv D q.2.2.2) (Ad D) U D.2.1) ∧ (∀ q ∈ cF, va_OF q.1 q.2.1 q.2.2.1 (tv D q.2.2.2.1) (ta D (1000000 + q.2.2.2.2)) (Ad D) U D.2.1) ∧ (∀ q ∈ cO, va_O q.1 (ta D (1000000 + q.2)) (Ad D) U D.2.1) ∧ (∀ q ∈ cT, va_T q.1 (ta D (1000000 + q.2.1)) q.2.2.1 (fun j => tv D (vp_V q.2.2.2 j)) (Ad D) U D.2.1) ∧ (∀ q ∈ cS, vk_R q.1 q.2.1 q.2.2.1 (ta D (1000000 + q.2.2.2)) U) ∧ vx_Zq Bundle.tN "UNASSIGNED_STACK" Bundle.steD (Ad D) U D.2.1 ∧ vx_Zq Bundle.tN "SUPPRESSED_SENTINEL" Bundle.listD (Ad D) U D.2.1 ∧ (∀ i, i < 25 → ∀ j, j < 25 → ta D (1000000 + i) = ta D (1000000 + j) → i = j)
theorem Facts.moved {D : DT} {u U : State} (hW : u.WarmedH U.vm) (h : Facts D u) : Facts D U := by
  obtain ⟨h1, h2, h3, h4, h5, h6, h7, h8, h9⟩ := h
  exact ⟨va_K.moved hW.alike h1, fun q hq => va_Z.moved hW.alike (h2 q hq), fun q hq => va_OF.moved hW.alike (h3 q hq), fun q hq => va_O.moved hW.alike (h4 q hq), fun q hq => va_T.moved hW.alike (h5 q hq), fun q hq => vk_R.warm hW (h6 q hq), vx_Zq.moved hW.alike h7, vx_Zq.moved hW.alike h8, h9⟩
theorem Facts.calling {D : DT} {u : State} {g : JFrame} {mk : MethodId} {a : Array Value} (h : Facts D u) : Facts D (u.calling g mk a) := by
  obtain ⟨h1, h2, h3, h4, h5, h6, h7, h8, h9⟩ := h
  have hv : u.vm.Alike (u.calling g mk a).vm := Vm.Alike.refl u.vm
  exact ⟨va_K.moved hv h1, fun q hq => va_Z.moved hv (h2 q hq), fun q hq => va_OF.moved hv (h3 q hq), fun q hq => va_O.moved hv (h4 q hq), fun q hq => va_T.moved hv (h5 q hq), fun q hq => vk_R.same rfl (h6 q hq), vx_Zq.moved hv h7, vx_Zq.moved hv h8, h9⟩
/-! ===== a method's frame, over the abstract memory ===== -/
abbrev XT : Type := Program × Launch × Env × Room × State × MethodId × Array Value × List Frame × Method × Code × (State → Prop)
def OK (X : XT) (D : DT) (cc : ByteArray) (own : String) (nL : Nat) : Prop := match X with
  | (p, l, e, R, s, m, args, below, meth, c, Q) => p.tables.exec = Jvm.exec ∧ c.code = cc ∧ c.maxLocals = nL ∧ s.vm.findClass own = some m.cls ∧ (∀ w ∈ TW, w.before args s = true) ∧ Facts D s ∧ meth.locks = false ∧ D.1 ≤ s.heap.size ∧ (∀ q, q < D.1 → s.heap[q]? = D.2.1[q]?)
def lprs (D : DT) : Nat → List Value → List (Nat × Value)
  | _, [] => []
  | i, v :: vs => match v with
    | .retAddr _ => lprs D (i + 1) vs
    | v => (i, tv D v) :: lprs D (i + 1) vs
def lsR (D : DT) (nL : Nat) (lsA : Array Slot) (ls : List Value) : Prop := ls.length = nL ∧ lv_has lsA nL (lprs D 0 ls)
def J (X : XT) (D : DT) (nL : Nat) (c w : Nat) (G : GT) (I : IT) (L : LT) (pc : Nat) (ls st : List Value) : Prop := match X with
  | (p, l, e, R, s, m, args, below, meth, c0, Q) => ∀ (H : Heap) (locs : List Loc) (lsA : Array Slot), Rel D G I L H → s.heap.size ≤ H.size → (∀ q ∈ locs, D.1 ≤ q.base) → lsR D nL lsA ls → W p l e R s m args below meth c0 H locs c w Q (F0 m pc lsA (st.map (tv D)))
theorem lprs_mem {D : DT} : ∀ (ls : List Value) (i k : Nat) (v : Value), ls[k]? = some v → (∀ r, v ≠ .retAddr r) → (i + k, tv D v) ∈ lprs D i ls := by
  intro ls
  induction ls with
  | nil => intro i k v h; simp at h
  | cons a l ih =>
    intro i k v h hv
    cases k with
    | zero =>
      simp at h
      subst h
      cases a <;> first | exact List.mem_cons_self | exact absurd rfl (hv _)
    | succ k =>
      have h1 := ih (i + 1) k v (by simpa using h) hv
      rw [show i + 1 + k = i + (k + 1) by omega] at h1
      cases a <;> first | exact List.mem_cons_of_mem _ h1 | exact h1
theorem lprs_of {D : DT} : ∀ (ls : List Value) (i : Nat) (q : Nat × Value), q ∈ lprs D i ls → ∃ k v, ls[k]? = some v ∧ (∀ r, v ≠ .retAddr r) ∧ q = (i + k, tv D v) := by
  intro ls
  induction ls with
  | nil => intro i q h; simp [lprs] at h
  | cons a l ih =>
    intro i q h
    have go : q ∈ lprs D (i + 1) l → ∃ k v, (a :: l)[k]? = some v ∧ (∀ r, v ≠ .retAddr r) ∧ q = (i + k, tv D v) := by
      intro h
      obtain ⟨k, v, h1, h2, h3⟩ := ih (i + 1) q h
      exact ⟨k + 1, v, by simpa using h1, h2, by rw [h3, show i + 1 + k = i + (k + 1) by omega]⟩
    have hd : ∀ v : Value, (∀ r, v ≠ .retAddr r) → a = v → q ∈ (i, tv D v) :: lprs D (i + 1) l → ∃ k v, (a :: l)[k]? = some v ∧ (∀ r, v ≠ .retAddr r) ∧ q = (i + k, tv D v) := by
      intro v hv e h
      rcases List.mem_cons.mp h with h | h
      · exact ⟨0, v, by rw [e]; rfl, hv, by rw [h]; rfl⟩
      · exact go h
    cases a with
    | retAddr r => exact go h
    | int x => exact hd _ (fun _ h => by cases h) rfl h
    | long x => exact hd _ (fun _ h => by cases h) rfl h
    | float x => exact hd _ (fun _ h => by cases h) rfl h
    | double x => exact hd _ (fun _ h => by cases h) rfl h
    | null => exact hd _ (fun _ h => by cases h) rfl h
    | ref x => exact hd _ (fun _ h => by cases h) rfl h
/-- a store into a local of one word: what lies there as the second half of another goes -/
def lset1 (ls : List Value) (i : Nat) (v : Value) : List Value := match i with
  | 0 => ls.set 0 v
  | j + 1 => match ls.getD j .null with
    | .long _ => (ls.set j (.retAddr 0)).set (j + 1) v
    | .double _ => (ls.set j (.retAddr 0)).set (j + 1) v
    | _ => ls.set (j + 1) v
def lset2 (ls : List Value) (i : Nat) (v : Value) : List Value := (lset1 ls i v).set (i + 1) (.retAddr 0)
theorem lset1_get {ls : List Value} {i k : Nat} {v u : Value} (h : (lset1 ls i v)[k]? = some u) (hu : ∀ r, u ≠ .retAddr r) : (k = i ∧ u = v) ∨ (k ≠ i ∧ ls[k]? = some u ∧ ¬ (k + 1 = i ∧ u.category = 2)) := by
  have hs : ∀ (l : List Value) (j : Nat) (x : Value), (l.set j x)[k]? = some u → (k = j ∧ u = x) ∨ (k ≠ j ∧ l[k]? = some u) := by
    intro l j x h
    rw [List.getElem?_set] at h
    by_cases e : j = k
    · rw [if_pos e] at h
      split at h
      · exact Or.inl ⟨e.symm, (Option.some.inj h).symm⟩
      · cases h
    · rw [if_neg e] at h
      exact Or.inr ⟨fun q => e q.symm, h⟩
  cases i with
  | zero =>
    rcases hs _ _ _ h with h | ⟨h1, h2⟩
    · exact Or.inl h
    · exact Or.inr ⟨h1, h2, fun q => by omega⟩
  | succ j =>
    have big : (k = j + 1 ∧ u = v) ∨ (k ≠ j + 1 ∧ k ≠ j ∧ ls[k]? = some u) → (k = j + 1 ∧ u = v) ∨ (k ≠ j + 1 ∧ ls[k]? = some u ∧ ¬ (k + 1 = j + 1 ∧ u.category = 2)) := by
      rintro (h | ⟨h1, h2, h3⟩)
      · exact Or.inl h
      · exact Or.inr ⟨h1, h3, fun q => by omega⟩
    have two : ((ls.set j (.retAddr 0)).set (j + 1) v)[k]? = some u → (k = j + 1 ∧ u = v) ∨ (k ≠ j + 1 ∧ k ≠ j ∧ ls[k]? = some u) := by
      intro h
      rcases hs _ _ _ h with h | ⟨h1, h2⟩
      · exact Or.inl h
      · rcases hs _ _ _ h2 with ⟨h3, h4⟩ | ⟨h3, h4⟩
        · exact absurd h4 (hu _)
        · exact Or.inr ⟨h1, h3, h4⟩
    have one : (∀ w, ls.getD j .null = w → w.category = 1) → (ls.set (j + 1) v)[k]? = some u → (k = j + 1 ∧ u = v) ∨ (k ≠ j + 1 ∧ ls[k]? = some u ∧ ¬ (k + 1 = j + 1 ∧ u.category = 2)) := by
      intro hc h
      rcases hs _ _ _ h with h | ⟨h1, h2⟩
      · exact Or.inl h
      · refine Or.inr ⟨h1, h2, fun q => ?_⟩
        have e : k = j := by omega
        subst e
        have h3 : ls.getD k .null = u := by rw [List.getD_eq_getElem?_getD, h2]; rfl
        have := hc u h3
        omega
    simp only [lset1] at h
    split at h
    · exact big (two h)
    · exact big (two h)
    · next h1 h2 =>
      refine one (fun w hw => ?_) h
      cases w with
      | long x => exact absurd hw (h1 x)
      | double x => exact absurd hw (h2 x)
      | _ => rfl
theorem lset1_len (ls : List Value) (i : Nat) (v : Value) : (lset1 ls i v).length = ls.length := by
  cases i with
  | zero => simp [lset1]
  | succ j => simp only [lset1]; split <;> simp
theorem lv_mono {ls : Array Slot} {nL : Nat} {l l' : List (Nat × Value)} (h : lv_has ls nL l) (hl : ∀ q ∈ l', q ∈ l) : lv_has ls nL l' := ⟨h.1, h.2.1, fun q hq => h.2.2 q (hl q hq)⟩
theorem lsR_get {D : DT} {nL : Nat} {lsA : Array Slot} {ls : List Value} (h : lsR D nL lsA ls) {i : Nat} {v : Value} (hi : ls[i]? = some v) (hv : ∀ r, v ≠ .retAddr r) : lsA[i]? = some (.val (tv D v)) := by
  have h1 := h.2.2.2 _ (lprs_mem (D := D) ls 0 i v hi hv)
  rw [Nat.zero_add] at h1
  exact h1
theorem lsR_set1 {D : DT} {nL : Nat} {lsA lsA' : Array Slot} {ls : List Value} {i : Nat} {v : Value} (h : lsR D nL lsA ls) (h' : lv_has lsA' nL ((i, tv D v) :: (lprs D 0 ls).filter (fun q => !(q.1 == i) && !(q.1 + 1 == i && q.2.category == 2)))) : lsR D nL lsA' (lset1 ls i v) := by
  refine ⟨by rw [lset1_len]; exact h.1, lv_mono h' fun q hq => ?_⟩
  obtain ⟨k, u, h1, h2, rfl⟩ := lprs_of _ _ _ hq
  rcases lset1_get h1 h2 with ⟨rfl, rfl⟩ | ⟨h3, h4, h5⟩
  · rw [Nat.zero_add]; exact List.mem_cons_self
  · refine List.mem_cons_of_mem _ (List.mem_filter.mpr ⟨lprs_mem ls 0 k u h4 h2, ?_⟩)
    simp only [Nat.zero_add, tv_cat, Bool.and_eq_true, Bool.not_eq_true', beq_eq_false_iff_ne, ne_eq, Bool.and_eq_false_imp, beq_iff_eq]
    exact ⟨h3, fun e => fun e2 => h5 ⟨e, e2⟩⟩
theorem lsR_set2 {D : DT} {nL : Nat} {lsA lsA' : Array Slot} {ls : List Value} {i : Nat} {v : Value} (h : lsR D nL lsA ls) (h' : lv_has lsA' nL ((i, tv D v) :: (lprs D 0 ls).filter (fun q => !(q.1 == i) && (!(q.1 == i + 1) && !(q.1 + 1 == i && q.2.category == 2))))) : lsR D nL lsA' (lset2 ls i v) := by
  refine ⟨by unfold lset2; rw [List.length_set, lset1_len]; exact h.1, lv_mono h' fun q hq => ?_⟩
  obtain ⟨k, u, h1, h2, rfl⟩ := lprs_of _ _ _ hq
  unfold lset2 at h1
  rw [List.getElem?_set] at h1
  by_cases e : i + 1 = k
  · rw [if_pos e] at h1
    split at h1
    · exact absurd (Option.some.inj h1).symm (h2 _)
    · cases h1
  · rw [if_neg e] at h1
    rcases lset1_get h1 h2 with ⟨rfl, rfl⟩ | ⟨h3, h4, h5⟩
    · rw [Nat.zero_add]; exact List.mem_cons_self
    · refine List.mem_cons_of_mem _ (List.mem_filter.mpr ⟨lprs_mem ls 0 k u h4 h2, ?_⟩)
      simp only [Nat.zero_add, tv_cat, Bool.and_eq_true, Bool.not_eq_true', beq_eq_false_iff_ne, ne_eq, Bool.and_eq_false_imp, beq_iff_eq]
      exact ⟨h3, fun q => e q.symm, fun e => fun e2 => h5 ⟨e, e2⟩⟩
section Rules
variable {X : XT} {D : DT} {cc : ByteArray} {own : String} {nL c w : Nat} {G : GT} {I : IT} {L : LT} {pc : Nat} {ls st : List Value}
theorem r_iconst (hX : OK X D cc own nL) {n : Int} {v : Int32} (d : decode cc pc = .ok (.iconst n, 1)) (hv : Int32.ofInt n = v) (k : J X D nL c w G I L (pc + 1) ls (.int v :: st)) : J X D nL c w G I L pc ls (st) := by
  obtain ⟨p, l, e, R, s, m, args, below, meth, c0, Q⟩ := X
  intro H locs lsA hR hz hl hL
  exact lv_iconst hX.1 hX.2.1 d hv (k H locs lsA hR hz hl hL)
theorem r_bipush (hX : OK X D cc own nL) {n : Int} {v : Int32} (d : decode cc pc = .ok (.bipush n, 2)) (hv : (Int8.ofInt n).toInt32 = v) (k : J X D nL c w G I L (pc + 2) ls (.int v :: st)) : J X D nL c w G I L pc ls (st) := by
  obtain ⟨p, l, e, R, s, m, args, below, meth, c0, Q⟩ := X
  intro H locs lsA hR hz hl hL
  exact lv_bipush hX.1 hX.2.1 d hv (k H locs lsA hR hz hl hL)
theorem r_sipush (hX : OK X D cc own nL) {n : Int} {v : Int32} (d : decode cc pc = .ok (.sipush n, 3)) (hv : (Int16.ofInt n).toInt32 = v) (k : J X D nL c w G I L (pc + 3) ls (.int v :: st)) : J X D nL c w G I L pc ls (st) := by
  obtain ⟨p, l, e, R, s, m, args, below, meth, c0, Q⟩ := X
  intro H locs lsA hR hz hl hL
  exact lv_sipush hX.1 hX.2.1 d hv (k H locs lsA hR hz hl hL)
theorem r_lconst (hX : OK X D cc own nL) {n : Fin 2} {v : Int64} (d : decode cc pc = .ok (.lconst n, 1)) (hv : Int64.ofNat (n : Nat) = v) (k : J X D nL c w G I L (pc + 1) ls (.long v :: st)) : J X D nL c w G I L pc ls (st) := by
  obtain ⟨p, l, e, R, s, m, args, below, meth, c0, Q⟩ := X
  intro H locs lsA hR hz hl hL
  exact lv_lconst hX.1 hX.2.1 d hv (k H locs lsA hR hz hl hL)
theorem r_null (hX : OK X D cc own nL) (d : decode cc pc = .ok (.aconst_null, 1)) (k : J X D nL c w G I L (pc + 1) ls (.null :: st)) : J X D nL c w G I L pc ls (st) := by
  obtain ⟨p, l, e, R, s, m, args, below, meth, c0, Q⟩ := X
  intro H locs lsA hR hz hl hL
  exact lv_null hX.1 hX.2.1 d (k H locs lsA hR hz hl hL)
theorem r_fconst0 (hX : OK X D cc own nL) (d : decode cc pc = .ok (.fconst 0, 1)) (k : J X D nL c w G I L (pc + 1) ls (.float FP.fconst0 :: st)) : J X D nL c w G I L pc ls (st) := by
  obtain ⟨p, l, e, R, s, m, args, below, meth, c0, Q⟩ := X
  intro H locs lsA hR hz hl hL
  exact lv_fconst0 hX.1 hX.2.1 d (k H locs lsA hR hz hl hL)
theorem r_fconst2 (hX : OK X D cc own nL) (d : decode cc pc = .ok (.fconst 2, 1)) (k : J X D nL c w G I L (pc + 1) ls (.float FP.fconst2 :: st)) : J X D nL c w G I L pc ls (st) := by
  obtain ⟨p, l, e, R, s, m, args, below, meth, c0, Q⟩ := X
  intro H locs lsA hR hz hl hL
  exact lv_fconst2 hX.1 hX.2.1 d (k H locs lsA hR hz hl hL)
theorem r_dconst0 (hX : OK X D cc own nL) (d : decode cc pc = .ok (.dconst 0, 1)) (k : J X D nL c w G I L (pc + 1) ls (.double FP.dconst0 :: st)) : J X D nL c w G I L pc ls (st) := by
  obtain ⟨p, l, e, R, s, m, args, below, meth, c0, Q⟩ := X
  intro H locs lsA hR hz hl hL
  exact lv_dconst0 hX.1 hX.2.1 d (k H locs lsA hR hz hl hL)
theorem r_iadd (hX : OK X D cc own nL) {x y : Int32} (d : decode cc pc = .ok (.iadd, 1)) (k : J X D nL c w G I L (pc + 1) ls (.int (x + y) :: st)) : J X D nL c w G I L pc ls (.int y :: .int x :: st) := by
  obtain ⟨p, l, e, R, s, m, args, below, meth, c0, Q⟩ := X
  intro H locs lsA hR hz hl hL
  exact lv_iadd hX.1 hX.2.1 d (k H locs lsA hR hz hl hL)
theorem r_isub (hX : OK X D cc own nL) {x y : Int32} (d : decode cc pc = .ok (.isub, 1)) (k : J X D nL c w G I L (pc + 1) ls (.int (x - y) :: st)) : J X D nL c w G I L pc ls (.int y :: .int x :: st) := by
  obtain ⟨p, l, e, R, s, m, args, below, meth, c0, Q⟩ := X
  intro H locs lsA hR hz hl hL
  exact lv_isub hX.1 hX.2.1 d (k H locs lsA hR hz hl hL)
theorem r_imul (hX : OK X D cc own nL) {x y : Int32} (d : decode cc pc = .ok (.imul, 1)) (k : J X D nL c w G I L (pc + 1) ls (.int (x * y) :: st)) : J X D nL c w G I L pc ls (.int y :: .int x :: st) := by
  obtain ⟨p, l, e, R, s, m, args, below, meth, c0, Q⟩ := X
  intro H locs lsA hR hz hl hL
  exact lv_imul hX.1 hX.2.1 d (k H locs lsA hR hz hl hL)
theorem r_iand (hX : OK X D cc own nL) {x y : Int32} (d : decode cc pc = .ok (.iand, 1)) (k : J X D nL c w G I L (pc + 1) ls (.int (x &&& y) :: st)) : J X D nL c w G I L pc ls (.int y :: .int x :: st) := by
  obtain ⟨p, l, e, R, s, m, args, below, meth, c0, Q⟩ := X
  intro H locs lsA hR hz hl hL
  exact lv_iand hX.1 hX.2.1 d (k H locs lsA hR hz hl hL)
theorem r_ior (hX : OK X D cc own nL) {x y : Int32} (d : decode cc pc = .ok (.ior, 1)) (k : J X D nL c w G I L (pc + 1) ls (.int (x ||| y) :: st)) : J X D nL c w G I L pc ls (.int y :: .int x :: st) := by
  obtain ⟨p, l, e, R, s, m, args, below, meth, c0, Q⟩ := X
  intro H locs lsA hR hz hl hL
  exact lv_ior hX.1 hX.2.1 d (k H locs lsA hR hz hl hL)
theorem r_ixor (hX : OK X D cc own nL) {x y : Int32} (d : decode cc pc = .ok (.ixor, 1)) (k : J X D nL c w G I L (pc + 1) ls (.int (x ^^^ y) :: st)) : J X D nL c w G I L pc ls (.int y :: .int x :: st) := by
  obtain ⟨p, l, e, R, s, m, args, below, meth, c0, Q⟩ := X
  intro H locs lsA hR hz hl hL
  exact lv_ixor hX.1 hX.2.1 d (k H locs lsA hR hz hl hL)
theorem r_ishl (hX : OK X D cc own nL) {x y : Int32} (d : decode cc pc = .ok (.ishl, 1)) (k : J X D nL c w G I L (pc + 1) ls (.int (x <<< (y &&& 31)) :: st)) : J X D nL c w G I L pc ls (.int y :: .int x :: st) := by
  obtain ⟨p, l, e, R, s, m, args, below, meth, c0, Q⟩ := X
  intro H locs lsA hR hz hl hL
  exact lv_ishl hX.1 hX.2.1 d (k H locs lsA hR hz hl hL)
theorem r_ishr (hX : OK X D cc own nL) {x y : Int32} (d : decode cc pc = .ok (.ishr, 1)) (k : J X D nL c w G I L (pc + 1) ls (.int (x >>> (y &&& 31)) :: st)) : J X D nL c w G I L pc ls (.int y :: .int x :: st) := by
  obtain ⟨p, l, e, R, s, m, args, below, meth, c0, Q⟩ := X
  intro H locs lsA hR hz hl hL
  exact lv_ishr hX.1 hX.2.1 d (k H locs lsA hR hz hl hL)
theorem r_idiv (hX : OK X D cc own nL) {x y : Int32} (d : decode cc pc = .ok (.idiv, 1)) (hne : ¬ y = 0) (k : J X D nL c w G I L (pc + 1) ls (.int (x / y) :: st)) : J X D nL c w G I L pc ls (.int y :: .int x :: st) := by
  obtain ⟨p, l, e, R, s, m, args, below, meth, c0, Q⟩ := X
  intro H locs lsA hR hz hl hL
  exact lv_idiv hX.1 hX.2.1 d hne (k H locs lsA hR hz hl hL)
theorem r_irem (hX : OK X D cc own nL) {x y : Int32} (d : decode cc pc = .ok (.irem, 1)) (hne : ¬ y = 0) (k : J X D nL c w G I L (pc + 1) ls (.int (x - x / y * y) :: st)) : J X D nL c w G I L pc ls (.int y :: .int x :: st) := by
  obtain ⟨p, l, e, R, s, m, args, below, meth, c0, Q⟩ := X
  intro H locs lsA hR hz hl hL
  exact lv_irem hX.1 hX.2.1 d hne (k H locs lsA hR hz hl hL)
theorem r_ineg (hX : OK X D cc own nL) {x : Int32} (d : decode cc pc = .ok (.ineg, 1)) (k : J X D nL c w G I L (pc + 1) ls (.int (-x) :: st)) : J X D nL c w G I L pc ls (.int x :: st) := by
  obtain ⟨p, l, e, R, s, m, args, below, meth, c0, Q⟩ := X
  intro H locs lsA hR hz hl hL
  exact lv_ineg hX.1 hX.2.1 d (k H locs lsA hR hz hl hL)
theorem r_i2l (hX : OK X D cc own nL) {x : Int32} {v : Int64} (d : decode cc pc = .ok (.i2l, 1)) (hv : x.toInt64 = v) (k : J X D nL c w G I L (pc + 1) ls (.long v :: st)) : J X D nL c w G I L pc ls (.int x :: st) := by
  obtain ⟨p, l, e, R, s, m, args, below, meth, c0, Q⟩ := X
  intro H locs lsA hR hz hl hL
  exact lv_i2l hX.1 hX.2.1 d hv (k H locs lsA hR hz hl hL)
theorem r_i2b (hX : OK X D cc own nL) {x : Int32} (d : decode cc pc = .ok (.i2b, 1)) (k : J X D nL c w G I L (pc + 1) ls (.int x.toInt8.toInt32 :: st)) : J X D nL c w G I L pc ls (.int x :: st) := by
  obtain ⟨p, l, e, R, s, m, args, below, meth, c0, Q⟩ := X
  intro H locs lsA hR hz hl hL
  exact lv_i2b hX.1 hX.2.1 d rfl (k H locs lsA hR hz hl hL)
theorem r_i2c (hX : OK X D cc own nL) {x : Int32} (d : decode cc pc = .ok (.i2c, 1)) (k : J X D nL c w G I L (pc + 1) ls (.int (x.toUInt32 % 65536).toInt32 :: st)) : J X D nL c w G I L pc ls (.int x :: st) := by
  obtain ⟨p, l, e, R, s, m, args, below, meth, c0, Q⟩ := X
  intro H locs lsA hR hz hl hL
  exact lv_i2c hX.1 hX.2.1 d rfl (k H locs lsA hR hz hl hL)
theorem r_i2f (hX : OK X D cc own nL) {x : Int32} (d : decode cc pc = .ok (.i2f, 1)) (k : J X D nL c w G I L (pc + 1) ls (.float (FP.i2f x) :: st)) : J X D nL c w G I L pc ls (.int x :: st) := by
  obtain ⟨p, l, e, R, s, m, args, below, meth, c0, Q⟩ := X
  intro H locs lsA hR hz hl hL
  exact lv_i2f hX.1 hX.2.1 d (k H locs lsA hR hz hl hL)
theorem r_i2d (hX : OK X D cc own nL) {x : Int32} (d : decode cc pc = .ok (.i2d, 1)) (k : J X D nL c w G I L (pc + 1) ls (.double (FP.i2d x) :: st)) : J X D nL c w G I L pc ls (.int x :: st) := by
  obtain ⟨p, l, e, R, s, m, args, below, meth, c0, Q⟩ := X
  intro H locs lsA hR hz hl hL
  exact lv_i2d hX.1 hX.2.1 d (k H locs lsA hR hz hl hL)
theorem r_f2d (hX : OK X D cc own nL) {x : UInt32} (d : decode cc pc = .ok (.f2d, 1)) (hn : vf_n64 (FP.f2d x)) (k : J X D nL c w G I L (pc + 1) ls (.double (FP.f2d x) :: st)) : J X D nL c w G I L pc ls (.float x :: st) := by
  obtain ⟨p, l, e, R, s, m, args, below, meth, c0, Q⟩ := X
  intro H locs lsA hR hz hl hL
  exact lv_f2d hX.1 hX.2.1 d hn (k H locs lsA hR hz hl hL)
theorem r_fmul (hX : OK X D cc own nL) {x y : UInt32} (d : decode cc pc = .ok (.fmul, 1)) (hn : vf_n32 (FP.fmul x y)) (k : J X D nL c w G I L (pc + 1) ls (.float (FP.fmul x y) :: st)) : J X D nL c w G I L pc ls (.float y :: .float x :: st) := by
  obtain ⟨p, l, e, R, s, m, args, below, meth, c0, Q⟩ := X
  intro H locs lsA hR hz hl hL
  exact lv_fmul hX.1 hX.2.1 d hn (k H locs lsA hR hz hl hL)
theorem r_fdiv (hX : OK X D cc own nL) {x y : UInt32} (d : decode cc pc = .ok (.fdiv, 1)) (hn : vf_n32 (FP.fdiv x y)) (k : J X D nL c w G I L (pc + 1) ls (.float (FP.fdiv x y) :: st)) : J X D nL c w G I L pc ls (.float y :: .float x :: st) := by
  obtain ⟨p, l, e, R, s, m, args, below, meth, c0, Q⟩ := X
  intro H locs lsA hR hz hl hL
  exact lv_fdiv hX.1 hX.2.1 d hn (k H locs lsA hR hz hl hL)
theorem r_dadd (hX : OK X D cc own nL) {x y : UInt64} (d : decode cc pc = .ok (.dadd, 1)) (hn : vf_n64 (FP.dadd x y)) (k : J X D nL c w G I L (pc + 1) ls (.double (FP.dadd x y) :: st)) : J X D nL c w G I L pc ls (.double y :: .double x :: st) := by
  obtain ⟨p, l, e, R, s, m, args, below, meth, c0, Q⟩ := X
  intro H locs lsA hR hz hl hL
  exact lv_dadd hX.1 hX.2.1 d hn (k H locs lsA hR hz hl hL)
theorem r_ddiv (hX : OK X D cc own nL) {x y : UInt64} (d : decode cc pc = .ok (.ddiv, 1)) (hn : vf_n64 (FP.ddiv x y)) (k : J X D nL c w G I L (pc + 1) ls (.double (FP.ddiv x y) :: st)) : J X D nL c w G I L pc ls (.double y :: .double x :: st) := by
  obtain ⟨p, l, e, R, s, m, args, below, meth, c0, Q⟩ := X
  intro H locs lsA hR hz hl hL
  exact lv_ddiv hX.1 hX.2.1 d hn (k H locs lsA hR hz hl hL)
theorem r_fcmp (hX : OK X D cc own nL) {x y : UInt32} {op : CmpOp} (d : decode cc pc = .ok (.fcmp op, 1)) (k : J X D nL c w G I L (pc + 1) ls (.int (Op.cmpValue (FP.fcmp x y) op) :: st)) : J X D nL c w G I L pc ls (.float y :: .float x :: st) := by
  obtain ⟨p, l, e, R, s, m, args, below, meth, c0, Q⟩ := X
  intro H locs lsA hR hz hl hL
  exact lv_fcmp hX.1 hX.2.1 d (k H locs lsA hR hz hl hL)
theorem r_dcmp (hX : OK X D cc own nL) {x y : UInt64} {op : CmpOp} (d : decode cc pc = .ok (.dcmp op, 1)) (k : J X D nL c w G I L (pc + 1) ls (.int (Op.cmpValue (FP.dcmp x y) op) :: st)) : J X D nL c w G I L pc ls (.double y :: .double x :: st) := by
  obtain ⟨p, l, e, R, s, m, args, below, meth, c0, Q⟩ := X
  intro H locs lsA hR hz hl hL
  exact lv_dcmp hX.1 hX.2.1 d (k H locs lsA hR hz hl hL)
theorem r_dup (hX : OK X D cc own nL) {v : Value} (d : decode cc pc = .ok (.dup, 1)) (hv : v.category = 1) (k : J X D nL c w G I L (pc + 1) ls (v :: v :: st)) : J X D nL c w G I L pc ls (v :: st) := by
  obtain ⟨p, l, e, R, s, m, args, below, meth, c0, Q⟩ := X
  intro H locs lsA hR hz hl hL
  exact lv_dup hX.1 hX.2.1 d (by rw [tv_cat]; exact hv) (k H locs lsA hR hz hl hL)
theorem r_pop (hX : OK X D cc own nL) {v : Value} (d : decode cc pc = .ok (.pop, 1)) (hv : v.category = 1) (k : J X D nL c w G I L (pc + 1) ls (st)) : J X D nL c w G I L pc ls (v :: st) := by
  obtain ⟨p, l, e, R, s, m, args, below, meth, c0, Q⟩ := X
  intro H locs lsA hR hz hl hL
  exact lv_pop hX.1 hX.2.1 d (by rw [tv_cat]; exact hv) (k H locs lsA hR hz hl hL)
theorem r_dup_x1 (hX : OK X D cc own nL) {va vb : Value} (d : decode cc pc = .ok (.dup_x1, 1)) (hv : va.category = 1) (hv2 : vb.category = 1) (k : J X D nL c w G I L (pc + 1) ls (va :: vb :: va :: st)) : J X D nL c w G I L pc ls (va :: vb :: st) := by
  obtain ⟨p, l, e, R, s, m, args, below, meth, c0, Q⟩ := X
  intro H locs lsA hR hz hl hL
  exact lv_dup_x1 hX.1 hX.2.1 d (by rw [tv_cat]; exact hv) (by rw [tv_cat]; exact hv2) (k H locs lsA hR hz hl hL)
theorem r_dup2 (hX : OK X D cc own nL) {va vb : Value} (d : decode cc pc = .ok (.dup2, 1)) (hv : va.category = 1) (hv2 : vb.category = 1) (k : J X D nL c w G I L (pc + 1) ls (va :: vb :: va :: vb :: st)) : J X D nL c w G I L pc ls (va :: vb :: st) := by
  obtain ⟨p, l, e, R, s, m, args, below, meth, c0, Q⟩ := X
  intro H locs lsA hR hz hl hL
  exact lv_dup2_11 hX.1 hX.2.1 d (by rw [tv_cat]; exact hv) (by rw [tv_cat]; exact hv2) (k H locs lsA hR hz hl hL)
theorem r_iload_n (hX : OK X D cc own nL) {j : Fin 4} {x : Int32} (d : decode cc pc = .ok (.iload_n j, 1)) (hi : ls[(j : Nat)]? = some (.int x)) (k : J X D nL c w G I L (pc + 1) ls (.int x :: st)) : J X D nL c w G I L pc ls st := by
  obtain ⟨p, l, e, R, s, m, args, below, meth, c0, Q⟩ := X
  intro H locs lsA hR hz hl hL
  exact lv_iload_n hX.1 hX.2.1 (i := (j : Nat)) d rfl (lsR_get hL hi (fun _ h => by cases h)) (k H locs lsA hR hz hl hL)
theorem r_iload (hX : OK X D cc own nL) {i : Nat} {x : Int32} (d : decode cc pc = .ok (.iload i, 2)) (hi : ls[i]? = some (.int x)) (k : J X D nL c w G I L (pc + 2) ls (.int x :: st)) : J X D nL c w G I L pc ls st := by
  obtain ⟨p, l, e, R, s, m, args, below, meth, c0, Q⟩ := X
  intro H locs lsA hR hz hl hL
  exact lv_iload hX.1 hX.2.1 d (lsR_get hL hi (fun _ h => by cases h)) (k H locs lsA hR hz hl hL)
theorem r_aload_n (hX : OK X D cc own nL) {j : Fin 4} {x : Nat} (d : decode cc pc = .ok (.aload_n j, 1)) (hi : ls[(j : Nat)]? = some (.ref x)) (k : J X D nL c w G I L (pc + 1) ls (.ref x :: st)) : J X D nL c w G I L pc ls st := by
  obtain ⟨p, l, e, R, s, m, args, below, meth, c0, Q⟩ := X
  intro H locs lsA hR hz hl hL
  exact lv_aload_n hX.1 hX.2.1 (i := (j : Nat)) d rfl (lsR_get hL hi (fun _ h => by cases h)) (k H locs lsA hR hz hl hL)
theorem r_aload (hX : OK X D cc own nL) {i : Nat} {x : Nat} (d : decode cc pc = .ok (.aload i, 2)) (hi : ls[i]? = some (.ref x)) (k : J X D nL c w G I L (pc + 2) ls (.ref x :: st)) : J X D nL c w G I L pc ls st := by
  obtain ⟨p, l, e, R, s, m, args, below, meth, c0, Q⟩ := X
  intro H locs lsA hR hz hl hL
  exact lv_aload hX.1 hX.2.1 d (lsR_get hL hi (fun _ h => by cases h)) (k H locs lsA hR hz hl hL)
theorem r_fload_n (hX : OK X D cc own nL) {j : Fin 4} {x : UInt32} (d : decode cc pc = .ok (.fload_n j, 1)) (hi : ls[(j : Nat)]? = some (.float x)) (k : J X D nL c w G I L (pc + 1) ls (.float x :: st)) : J X D nL c w G I L pc ls st := by
  obtain ⟨p, l, e, R, s, m, args, below, meth, c0, Q⟩ := X
  intro H locs lsA hR hz hl hL
  exact lv_fload_n hX.1 hX.2.1 (i := (j : Nat)) d rfl (lsR_get hL hi (fun _ h => by cases h)) (k H locs lsA hR hz hl hL)
theorem r_fload (hX : OK X D cc own nL) {i : Nat} {x : UInt32} (d : decode cc pc = .ok (.fload i, 2)) (hi : ls[i]? = some (.float x)) (k : J X D nL c w G I L (pc + 2) ls (.float x :: st)) : J X D nL c w G I L pc ls st := by
  obtain ⟨p, l, e, R, s, m, args, below, meth, c0, Q⟩ := X
  intro H locs lsA hR hz hl hL
  exact lv_fload hX.1 hX.2.1 d (lsR_get hL hi (fun _ h => by cases h)) (k H locs lsA hR hz hl hL)
theorem r_dload_n (hX : OK X D cc own nL) {j : Fin 4} {x : UInt64} (d : decode cc pc = .ok (.dload_n j, 1)) (hi : ls[(j : Nat)]? = some (.double x)) (k : J X D nL c w G I L (pc + 1) ls (.double x :: st)) : J X D nL c w G I L pc ls st := by
  obtain ⟨p, l, e, R, s, m, args, below, meth, c0, Q⟩ := X
  intro H locs lsA hR hz hl hL
  exact lv_dload_n hX.1 hX.2.1 (i := (j : Nat)) d rfl (lsR_get hL hi (fun _ h => by cases h)) (k H locs lsA hR hz hl hL)
theorem r_dload (hX : OK X D cc own nL) {i : Nat} {x : UInt64} (d : decode cc pc = .ok (.dload i, 2)) (hi : ls[i]? = some (.double x)) (k : J X D nL c w G I L (pc + 2) ls (.double x :: st)) : J X D nL c w G I L pc ls st := by
  obtain ⟨p, l, e, R, s, m, args, below, meth, c0, Q⟩ := X
  intro H locs lsA hR hz hl hL
  exact lv_dload hX.1 hX.2.1 d (lsR_get hL hi (fun _ h => by cases h)) (k H locs lsA hR hz hl hL)
theorem r_lload_n (hX : OK X D cc own nL) {j : Fin 4} {x : Int64} (d : decode cc pc = .ok (.lload_n j, 1)) (hi : ls[(j : Nat)]? = some (.long x)) (k : J X D nL c w G I L (pc + 1) ls (.long x :: st)) : J X D nL c w G I L pc ls st := by
  obtain ⟨p, l, e, R, s, m, args, below, meth, c0, Q⟩ := X
  intro H locs lsA hR hz hl hL
  exact lv_lload_n hX.1 hX.2.1 (i := (j : Nat)) d rfl (lsR_get hL hi (fun _ h => by cases h)) (k H locs lsA hR hz hl hL)
theorem r_lload (hX : OK X D cc own nL) {i : Nat} {x : Int64} (d : decode cc pc = .ok (.lload i, 2)) (hi : ls[i]? = some (.long x)) (k : J X D nL c w G I L (pc + 2) ls (.long x :: st)) : J X D nL c w G I L pc ls st := by
  obtain ⟨p, l, e, R, s, m, args, below, meth, c0, Q⟩ := X
  intro H locs lsA hR hz hl hL
  exact lv_lload hX.1 hX.2.1 d (lsR_get hL hi (fun _ h => by cases h)) (k H locs lsA hR hz hl hL)
theorem r_aload_nN (hX : OK X D cc own nL) {j : Fin 4} (d : decode cc pc = .ok (.aload_n j, 1)) (hi : ls[(j : Nat)]? = some .null) (k : J X D nL c w G I L (pc + 1) ls (.null :: st)) : J X D nL c w G I L pc ls st := by
  obtain ⟨p, l, e, R, s, m, args, below, meth, c0, Q⟩ := X
  intro H locs lsA hR hz hl hL
  exact lv_aload_nN hX.1 hX.2.1 (i := (j : Nat)) d rfl (lsR_get hL hi (fun _ h => by cases h)) (k H locs lsA hR hz hl hL)
theorem r_istore_n (hX : OK X D cc own nL) {j : Fin 4} {x : Int32} {ls' : List Value} (d : decode cc pc = .ok (.istore_n j, 1)) (hi : (j : Nat) < nL) (hs : lset1 ls (j : Nat) (.int x) = ls') (k : J X D nL c w G I L (pc + 1) ls' st) : J X D nL c w G I L pc ls (.int x :: st) := by
  obtain ⟨p, l, e, R, s, m, args, below, meth, c0, Q⟩ := X
  intro H locs lsA hR hz hl hL
  subst hs
  exact lv_istore_n hX.1 hX.2.1 (i := (j : Nat)) d rfl hL.2 hi rfl (fun lsA' h' => k H locs lsA' hR hz hl (lsR_set1 (v := .int x) hL h'))
theorem r_istore (hX : OK X D cc own nL) {i : Nat} {x : Int32} {ls' : List Value} (d : decode cc pc = .ok (.istore i, 2)) (hi : i < nL) (hs : lset1 ls i (.int x) = ls') (k : J X D nL c w G I L (pc + 2) ls' st) : J X D nL c w G I L pc ls (.int x :: st) := by
  obtain ⟨p, l, e, R, s, m, args, below, meth, c0, Q⟩ := X
  intro H locs lsA hR hz hl hL
  subst hs
  exact lv_istore hX.1 hX.2.1 d hL.2 hi rfl (fun lsA' h' => k H locs lsA' hR hz hl (lsR_set1 (v := .int x) hL h'))
theorem r_astore_n (hX : OK X D cc own nL) {j : Fin 4} {x : Nat} {ls' : List Value} (d : decode cc pc = .ok (.astore_n j, 1)) (hi : (j : Nat) < nL) (hs : lset1 ls (j : Nat) (.ref x) = ls') (k : J X D nL c w G I L (pc + 1) ls' st) : J X D nL c w G I L pc ls (.ref x :: st) := by
  obtain ⟨p, l, e, R, s, m, args, below, meth, c0, Q⟩ := X
  intro H locs lsA hR hz hl hL
  subst hs
  exact lv_astore_n hX.1 hX.2.1 (i := (j : Nat)) d rfl hL.2 hi rfl (fun lsA' h' => k H locs lsA' hR hz hl (lsR_set1 (v := .ref x) hL h'))
theorem r_astore (hX : OK X D cc own nL) {i : Nat} {x : Nat} {ls' : List Value} (d : decode cc pc = .ok (.astore i, 2)) (hi : i < nL) (hs : lset1 ls i (.ref x) = ls') (k : J X D nL c w G I L (pc + 2) ls' st) : J X D nL c w G I L pc ls (.ref x :: st) := by
  obtain ⟨p, l, e, R, s, m, args, below, meth, c0, Q⟩ := X
  intro H locs lsA hR hz hl hL
  subst hs
  exact lv_astore hX.1 hX.2.1 d hL.2 hi rfl (fun lsA' h' => k H locs lsA' hR hz hl (lsR_set1 (v := .ref x) hL h'))
theorem r_fstore_n (hX : OK X D cc own nL) {j : Fin 4} {x : UInt32} {ls' : List Value} (d : decode cc pc = .ok (.fstore_n j, 1)) (hi : (j : Nat) < nL) (hs : lset1 ls (j : Nat) (.float x) = ls') (k : J X D nL c w G I L (pc + 1) ls' st) : J X D nL c w G I L pc ls (.float x :: st) := by
  obtain ⟨p, l, e, R, s, m, args, below, meth, c0, Q⟩ := X
  intro H locs lsA hR hz hl hL
  subst hs
  exact lv_fstore_n hX.1 hX.2.1 (i := (j : Nat)) d rfl hL.2 hi rfl (fun lsA' h' => k H locs lsA' hR hz hl (lsR_set1 (v := .float x) hL h'))
theorem r_fstore (hX : OK X D cc own nL) {i : Nat} {x : UInt32} {ls' : List Value} (d : decode cc pc = .ok (.fstore i, 2)) (hi : i < nL) (hs : lset1 ls i (.float x) = ls') (k : J X D nL c w G I L (pc + 2) ls' st) : J X D nL c w G I L pc ls (.float x :: st) := by
  obtain ⟨p, l, e, R, s, m, args, below, meth, c0, Q⟩ := X
  intro H locs lsA hR hz hl hL
  subst hs
  exact lv_fstore hX.1 hX.2.1 d hL.2 hi rfl (fun lsA' h' => k H locs lsA' hR hz hl (lsR_set1 (v := .float x) hL h'))
theorem r_dstore_n (hX : OK X D cc own nL) {j : Fin 4} {x : UInt64} {ls' : List Value} (d : decode cc pc = .ok (.dstore_n j, 1)) (hi : (j : Nat) + 1 < nL) (hs : lset2 ls (j : Nat) (.double x) = ls') (k : J X D nL c w G I L (pc + 1) ls' st) : J X D nL c w G I L pc ls (.double x :: st) := by
  obtain ⟨p, l, e, R, s, m, args, below, meth, c0, Q⟩ := X
  intro H locs lsA hR hz hl hL
  subst hs
  exact lv_dstore_n hX.1 hX.2.1 (i := (j : Nat)) d rfl hL.2 hi rfl (fun lsA' h' => k H locs lsA' hR hz hl (lsR_set2 (v := .double x) hL h'))
theorem r_dstore (hX : OK X D cc own nL) {i : Nat} {x : UInt64} {ls' : List Value} (d : decode cc pc = .ok (.dstore i, 2)) (hi : i + 1 < nL) (hs : lset2 ls i (.double x) = ls') (k : J X D nL c w G I L (pc + 2) ls' st) : J X D nL c w G I L pc ls (.double x :: st) := by
  obtain ⟨p, l, e, R, s, m, args, below, meth, c0, Q⟩ := X
  intro H locs lsA hR hz hl hL
  subst hs
  exact lv_dstore hX.1 hX.2.1 d hL.2 hi rfl (fun lsA' h' => k H locs lsA' hR hz hl (lsR_set2 (v := .double x) hL h'))
theorem r_lstore_n (hX : OK X D cc own nL) {j : Fin 4} {x : Int64} {ls' : List Value} (d : decode cc pc = .ok (.lstore_n j, 1)) (hi : (j : Nat) + 1 < nL) (hs : lset2 ls (j : Nat) (.long x) = ls') (k : J X D nL c w G I L (pc + 1) ls' st) : J X D nL c w G I L pc ls (.long x :: st) := by
  obtain ⟨p, l, e, R, s, m, args, below, meth, c0, Q⟩ := X
  intro H locs lsA hR hz hl hL
  subst hs
  exact lv_lstore_n hX.1 hX.2.1 (i := (j : Nat)) d rfl hL.2 hi rfl (fun lsA' h' => k H locs lsA' hR hz hl (lsR_set2 (v := .long x) hL h'))
theorem r_lstore (hX : OK X D cc own nL) {i : Nat} {x : Int64} {ls' : List Value} (d : decode cc pc = .ok (.lstore i, 2)) (hi : i + 1 < nL) (hs : lset2 ls i (.long x) = ls') (k : J X D nL c w G I L (pc + 2) ls' st) : J X D nL c w G I L pc ls (.long x :: st) := by
  obtain ⟨p, l, e, R, s, m, args, below, meth, c0, Q⟩ := X
  intro H locs lsA hR hz hl hL
  subst hs
  exact lv_lstore hX.1 hX.2.1 d hL.2 hi rfl (fun lsA' h' => k H locs lsA' hR hz hl (lsR_set2 (v := .long x) hL h'))
theorem r_iinc (hX : OK X D cc own nL) {i : Nat} {n : Int} {x v : Int32} {ls' : List Value} (d : decode cc pc = .ok (.iinc i n, 3)) (hi : i < nL) (hg : ls[i]? = some (.int x)) (hv : x + Int32.ofInt n = v) (hs : lset1 ls i (.int v) = ls') (k : J X D nL c w G I L (pc + 3) ls' st) : J X D nL c w G I L pc ls st := by
  obtain ⟨p, l, e, R, s, m, args, below, meth, c0, Q⟩ := X
  intro H locs lsA hR hz hl hL
  subst hs
  obtain ⟨q, hq⟩ := List.getElem?_of_mem (lprs_mem (D := D) ls 0 i (.int x) hg (fun _ h => by cases h))
  rw [Nat.zero_add] at hq
  exact lv_iinc hX.1 hX.2.1 d hL.2 hq hv hi rfl (fun lsA' h' => k H locs lsA' hR hz hl (lsR_set1 (v := .int v) hL h'))
theorem r_if_eq (hX : OK X D cc own nL) {x : Int32} {off : Int} {tgt : Nat} (d : decode cc pc = .ok (.ifCond .eq off, 3)) (ht : (pc : Int) + off = (tgt : Int)) (kt : x = 0 → J X D nL c w G I L tgt ls st) (kf : ¬ x = 0 → J X D nL c w G I L (pc + 3) ls st) : J X D nL c w G I L pc ls (.int x :: st) := by
  obtain ⟨p, l, e, R, s, m, args, below, meth, c0, Q⟩ := X
  intro H locs lsA hR hz hl hL
  exact lv_if_eq hX.1 hX.2.1 d ht (fun h => kt h H locs lsA hR hz hl hL) (fun h => kf h H locs lsA hR hz hl hL)
theorem r_icmp_eq (hX : OK X D cc own nL) {x y : Int32} {off : Int} {tgt : Nat} (d : decode cc pc = .ok (.if_icmp .eq off, 3)) (ht : (pc : Int) + off = (tgt : Int)) (kt : x = y → J X D nL c w G I L tgt ls st) (kf : ¬ x = y → J X D nL c w G I L (pc + 3) ls st) : J X D nL c w G I L pc ls (.int y :: .int x :: st) := by
  obtain ⟨p, l, e, R, s, m, args, below, meth, c0, Q⟩ := X
  intro H locs lsA hR hz hl hL
  exact lv_icmp_eq hX.1 hX.2.1 d ht (fun h => kt h H locs lsA hR hz hl hL) (fun h => kf h H locs lsA hR hz hl hL)
theorem r_if_ne (hX : OK X D cc own nL) {x : Int32} {off : Int} {tgt : Nat} (d : decode cc pc = .ok (.ifCond .ne off, 3)) (ht : (pc : Int) + off = (tgt : Int)) (kt : ¬ x = 0 → J X D nL c w G I L tgt ls st) (kf : x = 0 → J X D nL c w G I L (pc + 3) ls st) : J X D nL c w G I L pc ls (.int x :: st) := by
  obtain ⟨p, l, e, R, s, m, args, below, meth, c0, Q⟩ := X
  intro H locs lsA hR hz hl hL
  exact lv_if_ne hX.1 hX.2.1 d ht (fun h => kt h H locs lsA hR hz hl hL) (fun h => kf h H locs lsA hR hz hl hL)
theorem r_icmp_ne (hX : OK X D cc own nL) {x y : Int32} {off : Int} {tgt : Nat} (d : decode cc pc = .ok (.if_icmp .ne off, 3)) (ht : (pc : Int) + off = (tgt : Int)) (kt : ¬ x = y → J X D nL c w G I L tgt ls st) (kf : x = y → J X D nL c w G I L (pc + 3) ls st) : J X D nL c w G I L pc ls (.int y :: .int x :: st) := by
  obtain ⟨p, l, e, R, s, m, args, below, meth, c0, Q⟩ := X
  intro H locs lsA hR hz hl hL
  exact lv_icmp_ne hX.1 hX.2.1 d ht (fun h => kt h H locs lsA hR hz hl hL) (fun h => kf h H locs lsA hR hz hl hL)
theorem r_if_lt (hX : OK X D cc own nL) {x : Int32} {off : Int} {tgt : Nat} (d : decode cc pc = .ok (.ifCond .lt off, 3)) (ht : (pc : Int) + off = (tgt : Int)) (kt : x < 0 → J X D nL c w G I L tgt ls st) (kf : ¬ x < 0 → J X D nL c w G I L (pc + 3) ls st) : J X D nL c w G I L pc ls (.int x :: st) := by
  obtain ⟨p, l, e, R, s, m, args, below, meth, c0, Q⟩ := X
  intro H locs lsA hR hz hl hL
  exact lv_if_lt hX.1 hX.2.1 d ht (fun h => kt h H locs lsA hR hz hl hL) (fun h => kf h H locs lsA hR hz hl hL)
theorem r_icmp_lt (hX : OK X D cc own nL) {x y : Int32} {off : Int} {tgt : Nat} (d : decode cc pc = .ok (.if_icmp .lt off, 3)) (ht : (pc : Int) + off = (tgt : Int)) (kt : x < y → J X D nL c w G I L tgt ls st) (kf : ¬ x < y → J X D nL c w G I L (pc + 3) ls st) : J X D nL c w G I L pc ls (.int y :: .int x :: st) := by
  obtain ⟨p, l, e, R, s, m, args, below, meth, c0, Q⟩ := X
  intro H locs lsA hR hz hl hL
  exact lv_icmp_lt hX.1 hX.2.1 d ht (fun h => kt h H locs lsA hR hz hl hL) (fun h => kf h H locs lsA hR hz hl hL)
theorem r_if_ge (hX : OK X D cc own nL) {x : Int32} {off : Int} {tgt : Nat} (d : decode cc pc = .ok (.ifCond .ge off, 3)) (ht : (pc : Int) + off = (tgt : Int)) (kt : 0 ≤ x → J X D nL c w G I L tgt ls st) (kf : ¬ 0 ≤ x → J X D nL c w G I L (pc + 3) ls st) : J X D nL c w G I L pc ls (.int x :: st) := by
  obtain ⟨p, l, e, R, s, m, args, below, meth, c0, Q⟩ := X
  intro H locs lsA hR hz hl hL
  exact lv_if_ge hX.1 hX.2.1 d ht (fun h => kt h H locs lsA hR hz hl hL) (fun h => kf h H locs lsA hR hz hl hL)
theorem r_icmp_ge (hX : OK X D cc own nL) {x y : Int32} {off : Int} {tgt : Nat} (d : decode cc pc = .ok (.if_icmp .ge off, 3)) (ht : (pc : Int) + off = (tgt : Int)) (kt : y ≤ x → J X D nL c w G I L tgt ls st) (kf : ¬ y ≤ x → J X D nL c w G I L (pc + 3) ls st) : J X D nL c w G I L pc ls (.int y :: .int x :: st) := by
  obtain ⟨p, l, e, R, s, m, args, below, meth, c0, Q⟩ := X
  intro H locs lsA hR hz hl hL
  exact lv_icmp_ge hX.1 hX.2.1 d ht (fun h => kt h H locs lsA hR hz hl hL) (fun h => kf h H locs lsA hR hz hl hL)
theorem r_if_gt (hX : OK X D cc own nL) {x : Int32} {off : Int} {tgt : Nat} (d : decode cc pc = .ok (.ifCond .gt off, 3)) (ht : (pc : Int) + off = (tgt : Int)) (kt : 0 < x → J X D nL c w G I L tgt ls st) (kf : ¬ 0 < x → J X D nL c w G I L (pc + 3) ls st) : J X D nL c w G I L pc ls (.int x :: st) := by
  obtain ⟨p, l, e, R, s, m, args, below, meth, c0, Q⟩ := X
  intro H locs lsA hR hz hl hL
  exact lv_if_gt hX.1 hX.2.1 d ht (fun h => kt h H locs lsA hR hz hl hL) (fun h => kf h H locs lsA hR hz hl hL)
theorem r_icmp_gt (hX : OK X D cc own nL) {x y : Int32} {off : Int} {tgt : Nat} (d : decode cc pc = .ok (.if_icmp .gt off, 3)) (ht : (pc : Int) + off = (tgt : Int)) (kt : y < x → J X D nL c w G I L tgt ls st) (kf : ¬ y < x → J X D nL c w G I L (pc + 3) ls st) : J X D nL c w G I L pc ls (.int y :: .int x :: st) := by
  obtain ⟨p, l, e, R, s, m, args, below, meth, c0, Q⟩ := X
  intro H locs lsA hR hz hl hL
  exact lv_icmp_gt hX.1 hX.2.1 d ht (fun h => kt h H locs lsA hR hz hl hL) (fun h => kf h H locs lsA hR hz hl hL)
theorem r_if_le (hX : OK X D cc own nL) {x : Int32} {off : Int} {tgt : Nat} (d : decode cc pc = .ok (.ifCond .le off, 3)) (ht : (pc : Int) + off = (tgt : Int)) (kt : x ≤ 0 → J X D nL c w G I L tgt ls st) (kf : ¬ x ≤ 0 → J X D nL c w G I L (pc + 3) ls st) : J X D nL c w G I L pc ls (.int x :: st) := by
  obtain ⟨p, l, e, R, s, m, args, below, meth, c0, Q⟩ := X
  intro H locs lsA hR hz hl hL
  exact lv_if_le hX.1 hX.2.1 d ht (fun h => kt h H locs lsA hR hz hl hL) (fun h => kf h H locs lsA hR hz hl hL)
theorem r_icmp_le (hX : OK X D cc own nL) {x y : Int32} {off : Int} {tgt : Nat} (d : decode cc pc = .ok (.if_icmp .le off, 3)) (ht : (pc : Int) + off = (tgt : Int)) (kt : x ≤ y → J X D nL c w G I L tgt ls st) (kf : ¬ x ≤ y → J X D nL c w G I L (pc + 3) ls st) : J X D nL c w G I L pc ls (.int y :: .int x :: st) := by
  obtain ⟨p, l, e, R, s, m, args, below, meth, c0, Q⟩ := X
  intro H locs lsA hR hz hl hL
  exact lv_icmp_le hX.1 hX.2.1 d ht (fun h => kt h H locs lsA hR hz hl hL) (fun h => kf h H locs lsA hR hz hl hL)
theorem r_goto (hX : OK X D cc own nL) {off : Int} {tgt : Nat} (d : decode cc pc = .ok (.goto off, 3)) (ht : (pc : Int) + off = (tgt : Int)) (k : J X D nL c w G I L tgt ls st) : J X D nL c w G I L pc ls st := by
  obtain ⟨p, l, e, R, s, m, args, below, meth, c0, Q⟩ := X
  intro H locs lsA hR hz hl hL
  exact lv_goto hX.1 hX.2.1 d ht (k H locs lsA hR hz hl hL)
theorem r_tableIn (hX : OK X D cc own nL) {dflt lo hi : Int} {offs : Array Int} {len : Nat} {x : Int32} {off : Int} {tgt : Nat} (d : decode cc pc = .ok (.tableswitch dflt lo hi offs, len)) (h1 : ¬ x.toInt < lo) (h2 : ¬ hi < x.toInt) (ho : offs[(x.toInt - lo).toNat]? = some off) (ht : (pc : Int) + off = (tgt : Int)) (k : J X D nL c w G I L tgt ls st) : J X D nL c w G I L pc ls (.int x :: st) := by
  obtain ⟨p, l, e, R, s, m, args, below, meth, c0, Q⟩ := X
  intro H locs lsA hR hz hl hL
  exact lv_tableIn hX.1 hX.2.1 d h1 h2 ho ht (k H locs lsA hR hz hl hL)
theorem r_tableOut (hX : OK X D cc own nL) {dflt lo hi : Int} {offs : Array Int} {len : Nat} {x : Int32} {tgt : Nat} (d : decode cc pc = .ok (.tableswitch dflt lo hi offs, len)) (h1 : x.toInt < lo ∨ hi < x.toInt) (ht : (pc : Int) + dflt = (tgt : Int)) (k : J X D nL c w G I L tgt ls st) : J X D nL c w G I L pc ls (.int x :: st) := by
  obtain ⟨p, l, e, R, s, m, args, below, meth, c0, Q⟩ := X
  intro H locs lsA hR hz hl hL
  exact lv_tableOut hX.1 hX.2.1 d h1 ht (k H locs lsA hR hz hl hL)
theorem r_lookup (hX : OK X D cc own nL) {dflt : Int} {ps : Array (Int × Int)} {len : Nat} {x : Int32} {off : Int} {tgt : Nat} (d : decode cc pc = .ok (.lookupswitch dflt ps, len)) (hp : (ps.toList.zip (ps.toList.drop 1)).all (fun (a, next) => a.1 < next.1) = true) (ho : Op.lookupswitch.offset ps.toList dflt x.toInt = off) (ht : (pc : Int) + off = (tgt : Int)) (k : J X D nL c w G I L tgt ls st) : J X D nL c w G I L pc ls (.int x :: st) := by
  obtain ⟨p, l, e, R, s, m, args, below, meth, c0, Q⟩ := X
  intro H locs lsA hR hz hl hL
  exact lv_lookup hX.1 hX.2.1 d hp ho ht (k H locs lsA hR hz hl hL)
end Rules
/-! ===== memory: what a rule reads and writes ===== -/
def up2 {α : Type} (f : Nat → Nat → α) (a j : Nat) (v : α) : Nat → Nat → α := fun a' j' => if a' = a ∧ j' = j then v else f a' j'
theorem up2_ne {α : Type} {f : Nat → Nat → α} {a j a' : Nat} {v : α} (h : a' ≠ a) : up2 f a j v a' = f a' := by
  funext j'
  simp [up2, h]
theorem fval_congr {D : DT} {R R' : Nat → Nat → Option Nat} {I I' : IT} {ci k : Nat} (h1 : R' k = R k) (h2 : I' k = I k) : fval D R' I' ci k = fval D R I ci k := by
  funext j
  simp only [fval, h1, h2]
theorem CR.kept {D : DT} {G G' : GT} {I I' : IT} {L L' : LT} {H H' : Heap} {k : Nat} (h : CR D G I L H k) (e1 : G'.2.1 k = G.2.1 k) (e2 : G'.2.2 k = G.2.2 k) (e3 : I' k = I k) (e4 : L'.1 k = L.1 k) (e5 : L'.2 k = L.2 k) (eH : H'[D.1 + k]? = H[D.1 + k]?) : CR D G' I' L' H' k := by
  unfold CR at h ⊢
  rw [e1]
  split at h
  · next h20 =>
    rw [if_pos h20]
    obtain ⟨r, h1, h2⟩ := h
    refine ⟨r, h1, ?_⟩
    rw [fval_congr (D := D) e2 e3]
    exact h2.kept eH
  · next h20 =>
    rw [if_neg h20]
    split at h
    · next h27 =>
      rw [if_pos h27, eH, h]
      simp only [arrV4, e2, e3, e4, e5]
    · next h27 => rw [if_neg h27]; trivial
theorem CR.ob {D : DT} {G : GT} {I : IT} {L : LT} {H : Heap} {k ci z : Nat} (h : CR D G I L H k) (hs : G.2.1 k = (ci, z)) (hc : ci < 20) : ∃ r, vwCl[ci]? = some r ∧ t_OB (D.1 + k) (D.2.2.1 ci) r.2.2 (D.2.2.2.1 ci) H (fval D G.2.2 I ci k) := by
  unfold CR at h
  rw [hs] at h
  rw [if_pos (show ((ci, z) : Nat × Nat).1 < 20 from hc)] at h
  exact h
theorem CR.ar {D : DT} {G : GT} {I : IT} {L : LT} {H : Heap} {k t n : Nat} (h : CR D G I L H k) (hs : G.2.1 k = (20 + t, n)) (ht : t < 7) : H[D.1 + k]? = some (vp_cell (D.2.2.2.2.1 t) (n, arrV4 D G I L t k)) := by
  unfold CR at h
  rw [hs] at h
  rw [if_neg (show ¬ ((20 + t, n) : Nat × Nat).1 < 20 by show ¬ 20 + t < 20; omega), if_pos (show ((20 + t, n) : Nat × Nat).1 < 27 by show 20 + t < 27; omega)] at h
  rw [show ((20 + t, n) : Nat × Nat).1 - 20 = t by show 20 + t - 20 = t; omega] at h
  exact h
theorem CR.to_ob {D : DT} {G : GT} {I : IT} {L : LT} {H : Heap} {k ci z : Nat} {r : vw_C} (hs : G.2.1 k = (ci, z)) (hc : ci < 20) (hr : vwCl[ci]? = some r) (h : t_OB (D.1 + k) (D.2.2.1 ci) r.2.2 (D.2.2.2.1 ci) H (fval D G.2.2 I ci k)) : CR D G I L H k := by
  unfold CR
  rw [hs]
  rw [if_pos (show ((ci, z) : Nat × Nat).1 < 20 from hc)]
  exact ⟨r, hr, h⟩
theorem CR.to_ar {D : DT} {G : GT} {I : IT} {L : LT} {H : Heap} {k t n : Nat} (hs : G.2.1 k = (20 + t, n)) (ht : t < 7) (h : H[D.1 + k]? = some (vp_cell (D.2.2.2.2.1 t) (n, arrV4 D G I L t k))) : CR D G I L H k := by
  unfold CR
  rw [hs]
  rw [if_neg (show ¬ ((20 + t, n) : Nat × Nat).1 < 20 by show ¬ 20 + t < 20; omega), if_pos (show ((20 + t, n) : Nat × Nat).1 < 27 by show 20 + t < 27; omega)]
  rw [show ((20 + t, n) : Nat × Nat).1 - 20 = t by show 20 + t - 20 = t; omega]
  exact h
/-- cell a alone has changed -/
theorem Rel.set {D : DT} {G G' : GT} {I I' : IT} {L L' : LT} {H H' : Heap} {a : Nat} (h : Rel D G I L H) (hn : G'.1 = G.1) (e1 : G'.2.1 = G.2.1) (e2 : ∀ k, k ≠ a → G'.2.2 k = G.2.2 k) (e3 : ∀ k, k ≠ a → I' k = I k) (e4 : ∀ k, k ≠ a → L'.1 k = L.1 k) (e5 : ∀ k, k ≠ a → L'.2 k = L.2 k) (hz : H'.size = H.size) (ho : ∀ q, q ≠ D.1 + a → H'[q]? = H[q]?) (hc : CR D G' I' L' H' a) : Rel D G' I' L' H' := by
  obtain ⟨h1, h2, h3, h4⟩ := h
  refine ⟨by rw [hz, hn]; exact h1, by rw [hn]; exact h2, fun q hq => (ho q (by omega)).trans (h3 q hq), fun k hk => ?_⟩
  by_cases e : k = a
  · subst e; exact hc
  · exact (h4 k (by rw [← hn]; exact hk)).kept (by rw [e1]) (e2 k e) (e3 k e) (e4 k e) (e5 k e) (ho _ (by omega))
/-- one cell more -/
theorem Rel.push {D : DT} {G G' : GT} {I I' : IT} {L L' : LT} {H H' : Heap} (h : Rel D G I L H) (hn : G'.1 = G.1 + 1) (hb : G.1 + 1 < 1000000) (e1 : ∀ k, k < G.1 → G'.2.1 k = G.2.1 k) (e2 : ∀ k, k < G.1 → G'.2.2 k = G.2.2 k) (e3 : ∀ k, k < G.1 → I' k = I k) (e4 : ∀ k, k < G.1 → L'.1 k = L.1 k) (e5 : ∀ k, k < G.1 → L'.2 k = L.2 k) (hz : H'.size = D.1 + G.1 + 1) (ho : ∀ q, q < D.1 + G.1 → H'[q]? = H[q]?) (hc : CR D G' I' L' H' G.1) : Rel D G' I' L' H' := by
  obtain ⟨h1, h2, h3, h4⟩ := h
  refine ⟨by omega, by omega, fun q hq => (ho q (by omega)).trans (h3 q hq), fun k hk => ?_⟩
  by_cases e : k = G.1
  · rw [e]; exact hc
  · have hk2 : k < G.1 := by omega
    exact (h4 k hk2).kept (e1 k hk2) (e2 k hk2) (e3 k hk2) (e4 k hk2) (e5 k hk2) (ho _ (by omega))
theorem Rel.ta {D : DT} {G : GT} {I : IT} {L : LT} {H : Heap} {a : Nat} (h : Rel D G I L H) (ha : a < G.1) : ta D a = D.1 + a := ta_lt D (Nat.lt_trans ha h.2.1)
theorem Facts.S {D : DT} {s : State} {H : Heap} {G : GT} {I : IT} {L : LT} {locs : List Loc} (h0 : ∀ q, q < D.1 → s.heap[q]? = D.2.1[q]?) (hR : Rel D G I L H) (hz : s.heap.size ≤ H.size) (hl : ∀ q ∈ locs, D.1 ≤ q.base) : va_S (Ad D) s.heap H locs := ⟨hz, fun q _ h => by
  have hq : q < D.1 := Nat.lt_of_not_le h
  rw [hR.2.2.1 q hq, h0 q hq], hl⟩
theorem old_kept {D : DT} {s : State} (h0 : ∀ q, q < D.1 → s.heap[q]? = D.2.1[q]?) : ∀ a : Nat, a < D.2.1.size → ¬ Ad D a → s.heap[a]? = D.2.1[a]? := fun a _ h => h0 a (Nat.lt_of_not_le h)
/-- a field of a class of ours, by its pool entry -/
def GF (own : String) (idx ci j : Nat) : Prop := ∃ r, vwCl[ci]? = some r ∧ ci < 20 ∧ j < r.2.2 ∧ Cond.fieldLink own idx (r.2.1 j).1 (r.2.1 j).2.1 (r.2.1 j).2.2.1 ∈ TW
section Mem
variable {X : XT} {D : DT} {cc : ByteArray} {own : String} {nL c w : Nat} {G : GT} {I : IT} {L : LT} {pc : Nat} {ls st : List Value}
theorem r_getV (hX : OK X D cc own nL) {idx ci j a z : Nat} (gf : GF own idx ci j) (d : decode cc pc = .ok (.getfield idx, 3)) (ha : a < G.1) (hs : G.2.1 a = (ci, z)) {v : Value} (hv : fval D G.2.2 I ci a j = tv D v) (k : J X D nL c w G I L (pc + 3) ls (v :: st)) : J X D nL c w G I L pc ls (.ref a :: st) := by
  obtain ⟨p, l, e, R, s, m, args, below, meth, c0, Q⟩ := X
  intro H locs lsA hR hz hl hL
  obtain ⟨r, hr, hc, hj, hlink⟩ := gf
  obtain ⟨r', hr', hob⟩ := (hR.2.2.2 a ha).ob hs hc
  cases hr.symm.trans hr'
  obtain ⟨hx, hb, -, hown, hts, hF, -⟩ := hX
  obtain ⟨cell, q1, q2, q3, q4⟩ := hob
  obtain ⟨hS, hfc, kC, hkC, hkind⟩ := hF.1.1 ci _ hr
  obtain ⟨cf, kf, fi, f, hi, hsl⟩ := hS j hj
  have ht := hR.ta ha
  show W _ _ _ _ _ _ _ _ _ _ _ _ _ _ _ (F0 m pc lsA (.ref (ta D a) :: st.map (tv D)))
  rw [ht]
  refine W.getf hx hb hown (hts _ hlink) hi (u_facts hfc hkC (u_lays hts (vw_in ci r hr) hj) hi).1 q1 (by rw [q3]; exact fun h => by cases h) (v := tv D v) ?_ rfl rfl d (k H locs lsA hR hz hl hL)
  rw [hsl, q4 j hj, hv]
theorem r_getI (hX : OK X D cc own nL) {idx ci j a z : Nat} (gf : GF own idx ci j) (hr : isR ci j = false) (d : decode cc pc = .ok (.getfield idx, 3)) (ha : a < G.1) (hs : G.2.1 a = (ci, z)) (k : J X D nL c w G I L (pc + 3) ls (.int (I a j) :: st)) : J X D nL c w G I L pc ls (.ref a :: st) := r_getV hX gf d ha hs (by unfold fval; rw [hr]; rfl) k
theorem r_getR (hX : OK X D cc own nL) {idx ci j a z b : Nat} (gf : GF own idx ci j) (hr : isR ci j = true) (d : decode cc pc = .ok (.getfield idx, 3)) (ha : a < G.1) (hs : G.2.1 a = (ci, z)) (hv : G.2.2 a j = some b) (k : J X D nL c w G I L (pc + 3) ls (.ref b :: st)) : J X D nL c w G I L pc ls (.ref a :: st) := r_getV hX gf d ha hs (by unfold fval; rw [hr, if_pos rfl, hv]; rfl) k
/-- a field that isn't final -/
def PF (own : String) (idx ci j : Nat) (ty : FieldType) : Prop := ∃ r, vwCl[ci]? = some r ∧ ci < 20 ∧ j < r.2.2 ∧ Cond.fieldLink own idx (r.2.1 j).1 (r.2.1 j).2.1 (r.2.1 j).2.2.1 ∈ TW ∧ (r.2.1 j).2.2.2 = false ∧ parseFieldDescriptor (r.2.1 j).2.2.1 = some ty
theorem put_ob {D : DT} {G G' : GT} {I I' : IT} {L : LT} {H H' : Heap} {a ci z j : Nat} {r : vw_C} {v : Value} {cell : Cell} (hR : Rel D G I L H) (ha : a < G.1) (hs : G.2.1 a = (ci, z)) (hc : ci < 20) (hr : vwCl[ci]? = some r) (hj : j < r.2.2)
    (hap : ∀ x y, x < r.2.2 → y < r.2.2 → x ≠ y → D.2.2.2.1 ci x ≠ D.2.2.2.1 ci y) (q2 : cell.cls = D.2.2.1 ci) (q3 : cell.vm = .none) (q4 : ∀ k, k < r.2.2 → cell.slots[D.2.2.2.1 ci k]? = some (fval D G.2.2 I ci a k))
    (e1 : H'[D.1 + a]? = some (cell.setSlot (D.2.2.2.1 ci j) v)) (hz : H'.size = H.size) (ho : ∀ q, q ≠ D.1 + a → H'[q]? = H[q]?) (hn : G'.1 = G.1) (g1 : G'.2.1 = G.2.1) (g2 : ∀ k, k ≠ a → G'.2.2 k = G.2.2 k) (g3 : ∀ k, k ≠ a → I' k = I k) (hv : ∀ k, k < r.2.2 → updV (fval D G.2.2 I ci a) j v k = fval D G'.2.2 I' ci a k) : Rel D G' I' L H' := by
  refine hR.set hn g1 g2 g3 (fun _ _ => rfl) (fun _ _ => rfl) hz ho ?_
  refine CR.to_ob (r := r) (by rw [g1]; exact hs) hc hr ?_
  exact t_OB.to (V := updV (fval D G.2.2 I ci a) j v) ⟨_, e1, q2, q3, t_set q4 hap hj v⟩ hv
theorem r_putV (hX : OK X D cc own nL) {idx ci j a z : Nat} {ty : FieldType} (gf : PF own idx ci j ty) (d : decode cc pc = .ok (.putfield idx, 3)) (ha : a < G.1) (hs : G.2.1 a = (ci, z)) {v : Value} (hn : narrow ty (tv D v) = tv D v) (hf : fits ty (tv D v) = true)
    {G' : GT} {I' : IT} (hn2 : G'.1 = G.1) (g1 : G'.2.1 = G.2.1) (g2 : ∀ k, k ≠ a → G'.2.2 k = G.2.2 k) (g3 : ∀ k, k ≠ a → I' k = I k) (hv : ∀ k, updV (fval D G.2.2 I ci a) j (tv D v) k = fval D G'.2.2 I' ci a k) (k : J X D nL c w G' I' L (pc + 3) ls st) : J X D nL c w G I L pc ls (v :: .ref a :: st) := by
  obtain ⟨p, l, e, R, s, m, args, below, meth, c0, Q⟩ := X
  intro H locs lsA hR hz hl hL
  obtain ⟨r, hr, hc, hj, hlink, hfin, hty⟩ := gf
  obtain ⟨r', hr', hob⟩ := (hR.2.2.2 a ha).ob hs hc
  cases hr.symm.trans hr'
  obtain ⟨hx, hb, -, hown, hts, hF, -⟩ := hX
  obtain ⟨cell, q1, q2, q3, q4⟩ := hob
  obtain ⟨ty0, hty0⟩ := vw_ty ci r hr
  have hin := vw_in ci r hr
  have hap := va_apart (own := own) hts hin ty0 hty0 (vw_nm ci r hr) hF.1 hr
  obtain ⟨hS, hfc, kC, hkC, hkind⟩ := hF.1.1 ci _ hr
  obtain ⟨cf, kf, fi, f, hi, hsl⟩ := hS j hj
  have hlay := hts _ (hin _ (u_in_lay hj))
  unfold u_lay at hlay
  rw [if_neg (by rw [hfin]; decide)] at hlay
  have hst := (u_facts hfc hkC (u_lays hts hin hj) hi).1
  have h6 := u_store hfc hkC hkind hlay hi hty hn hf
  have ht := hR.ta ha
  show W _ _ _ _ _ _ _ _ _ _ _ _ _ _ _ (F0 m pc lsA (tv D v :: .ref (ta D a) :: st.map (tv D)))
  rw [ht]
  refine W.putK hx hb (f := f) ⟨hown, hts _ hlink, ⟨_, _, _, hi⟩, hst⟩ (by rw [q2]; exact h6) q1 q3 (by rw [hsl]; exact k2_hasslot (q4 j hj)) rfl rfl d fun H' e1 e2 e3 => ?_
  rw [hsl] at e1 ⊢
  refine k H' _ lsA (put_ob hR ha hs hc hr hj hap q2 q3 q4 e1 e2 e3 hn2 g1 g2 g3 (fun k _ => hv k)) (by rw [e2]; exact hz) (fun q hq => ?_) hL
  rcases List.mem_append.mp hq with h | h
  · exact hl q h
  · rw [List.mem_singleton.mp h]; exact Nat.le_add_right _ _
theorem fval_putI {D : DT} {R : Nat → Nat → Option Nat} {I : IT} {ci a j : Nat} {x : Int32} (hr : isR ci j = false) : ∀ k, updV (fval D R I ci a) j (.int x) k = fval D R (up2 I a j x) ci a k := by
  intro k
  by_cases e : k = j
  · subst e; simp [updV, fval, hr, up2]
  · simp [updV, fval, up2, e]
theorem fval_putR {D : DT} {R : Nat → Nat → Option Nat} {I : IT} {ci a j : Nat} {x : Option Nat} (hr : isR ci j = true) : ∀ k, updV (fval D R I ci a) j (tv D (va_rf x)) k = fval D (up2 R a j x) I ci a k := by
  intro k
  by_cases e : k = j
  · subst e; simp [updV, fval, hr, up2, tv_rf]
  · simp [updV, fval, up2, e]
theorem r_putI (hX : OK X D cc own nL) {idx ci j a z : Nat} {ty : FieldType} (gf : PF own idx ci j ty) (hr : isR ci j = false) (d : decode cc pc = .ok (.putfield idx, 3)) (ha : a < G.1) (hs : G.2.1 a = (ci, z)) {x : Int32} (hn : narrow ty (.int x) = .int x) (hf : fits ty (.int x) = true) (k : J X D nL c w G (up2 I a j x) L (pc + 3) ls st) : J X D nL c w G I L pc ls (.int x :: .ref a :: st) :=
  r_putV hX gf d ha hs (v := .int x) hn hf rfl rfl (fun _ _ => rfl) (fun k h => up2_ne h) (fval_putI hr) k
def gPut (G : GT) (a j : Nat) (x : Option Nat) : GT := (G.1, G.2.1, up2 G.2.2 a j x)
theorem r_putR (hX : OK X D cc own nL) {idx ci j a z b : Nat} {ty : FieldType} (gf : PF own idx ci j ty) (hr : isR ci j = true) (d : decode cc pc = .ok (.putfield idx, 3)) (ha : a < G.1) (hs : G.2.1 a = (ci, z)) (hty : (∃ n, ty = .object n) ∨ ∃ t, ty = .array t) (k : J X D nL c w (gPut G a j (some b)) I L (pc + 3) ls st) : J X D nL c w G I L pc ls (.ref b :: .ref a :: st) :=
  r_putV hX gf d ha hs (v := .ref b) (G' := gPut G a j (some b)) (by rcases hty with ⟨n, rfl⟩ | ⟨t, rfl⟩ <;> rfl) (by rcases hty with ⟨n, rfl⟩ | ⟨t, rfl⟩ <;> rfl) rfl rfl (fun k h => up2_ne h) (fun _ _ => rfl) (fval_putR (x := some b) hr) k
/-- a final field, in the constructor of its own class -/
def FF (own : String) (idx ci j : Nat) (ty : FieldType) : Prop := ∃ r, vwCl[ci]? = some r ∧ ci < 20 ∧ j < r.2.2 ∧ Cond.fieldLink own idx (r.2.1 j).1 (r.2.1 j).2.1 (r.2.1 j).2.2.1 ∈ TW ∧ (r.2.1 j).2.2.2 = true ∧ parseFieldDescriptor (r.2.1 j).2.2.1 = some ty ∧ (r.2.1 j).1 = own
def InInit (X : XT) : Prop := match X with
  | (p, l, e, R, s, m, args, below, meth, c0, Q) => meth.name = "<init>"
theorem r_putF (hX : OK X D cc own nL) (hI : InInit X) {idx ci j a z b : Nat} {ty : FieldType} (gf : FF own idx ci j ty) (hrr : isR ci j = true) (d : decode cc pc = .ok (.putfield idx, 3)) (ha : a < G.1) (hs : G.2.1 a = (ci, z)) (hty2 : (∃ n, ty = .object n) ∨ ∃ t, ty = .array t) (k : J X D nL c w (gPut G a j (some b)) I L (pc + 3) ls st) : J X D nL c w G I L pc ls (.ref b :: .ref a :: st) := by
  obtain ⟨p, l, e, R, s, m, args, below, meth, c0, Q⟩ := X
  intro H locs lsA hR hz hl hL
  obtain ⟨r, hr, hc, hj, hlink, hfin, hty, hdecl⟩ := gf
  obtain ⟨r', hr', hob⟩ := (hR.2.2.2 a ha).ob hs hc
  cases hr.symm.trans hr'
  obtain ⟨hx, hb, -, hown, hts, hF, -⟩ := hX
  obtain ⟨cell, q1, q2, q3, q4⟩ := hob
  obtain ⟨ty0, hty0⟩ := vw_ty ci r hr
  have hin := vw_in ci r hr
  have hap := va_apart (own := own) hts hin ty0 hty0 (vw_nm ci r hr) hF.1 hr
  obtain ⟨hS, hfc, kC, hkC, hkind⟩ := hF.1.1 ci _ hr
  obtain ⟨cf, kf, fi, f, hi, hsl⟩ := hS j hj
  have hlay := hts _ (hin _ (u_in_lay hj))
  unfold u_lay at hlay
  rw [if_pos hfin] at hlay
  have hst := (u_facts hfc hkC (u_lays hts hin hj) hi).1
  have hcf : m.cls = cf := by
    obtain ⟨_, _, c', _, _, _, -, -, hf', -, -, -, hown2, -⟩ := Cond.laysFinal_spec hlay
    have e1 : c' = cf := by have := hi.symm.trans hf'; simp at this; exact this.1.symm
    rw [hdecl] at hown2
    rw [← e1]; exact Option.some.inj (hown.symm.trans hown2)
  have h6 := u_fits hfc hkC hkind (Or.inr hlay) hi hty (v := .ref (ta D b)) (by rcases hty2 with ⟨n, rfl⟩ | ⟨t, rfl⟩ <;> rfl) (by rcases hty2 with ⟨n, rfl⟩ | ⟨t, rfl⟩ <;> rfl)
  have ht := hR.ta ha
  show W _ _ _ _ _ _ _ _ _ _ _ _ _ _ _ (F0 m pc lsA (.ref (ta D b) :: .ref (ta D a) :: st.map (tv D)))
  rw [ht]
  refine W.putFinK hx hb hown (hts _ hlink) hi hst hcf hI (by rw [q2]; exact h6) q1 q3 (by rw [hsl]; exact k2_hasslot (q4 j hj)) rfl rfl d fun H' e1 e2 e3 => ?_
  rw [hsl] at e1 ⊢
  refine k H' _ lsA (put_ob (G' := gPut G a j (some b)) hR ha hs hc hr hj hap q2 q3 q4 e1 e2 e3 rfl rfl (fun k h => up2_ne h) (fun _ _ => rfl) (fun k _ => fval_putR (x := some b) hrr k)) (by rw [e2]; exact hz) (fun q hq => ?_) hL
  rcases List.mem_append.mp hq with h | h
  · exact hl q h
  · rw [List.mem_singleton.mp h]; exact Nat.le_add_right _ _
end Mem
/-! ===== arrays ===== -/
section Arr
variable {X : XT} {D : DT} {cc : ByteArray} {own : String} {nL c w : Nat} {G : GT} {I : IT} {L : LT} {pc : Nat} {ls st : List Value}
theorem arr_rd {D : DT} {G : GT} {I : IT} {L : LT} {H : Heap} {a t n : Nat} {s : State} (hF : Facts D s) (h : CR D G I L H a) (hs : G.2.1 a = (20 + t, n)) (ht : t < 7) : H[D.1 + a]? = some (vp_cell (D.2.2.2.2.1 t) (n, arrV4 D G I L t a)) ∧ ArrOfT s (D.2.2.2.2.1 t) (arrTy t) := ⟨h.ar hs ht, (hF.1.2 t _ (tysL_at D ht)).1⟩
theorem r_alen (hX : OK X D cc own nL) {a t n : Nat} (d : decode cc pc = .ok (.arraylength, 1)) (ha : a < G.1) (hs : G.2.1 a = (20 + t, n)) (ht : t < 4) (k : J X D nL c w G I L (pc + 1) ls (.int (nI n) :: st)) : J X D nL c w G I L pc ls (.ref a :: st) := by
  obtain ⟨p, l, e, R, s, m, args, below, meth, c0, Q⟩ := X
  intro H locs lsA hR hz hl hL
  obtain ⟨h1, h2⟩ := arr_rd hX.2.2.2.2.2.1 (hR.2.2.2 a ha) hs (by omega : t < 7)
  have hta := hR.ta ha
  show W _ _ _ _ _ _ _ _ _ _ _ _ _ _ _ (F0 m pc lsA (.ref (ta D a) :: st.map (tv D)))
  rw [hta]
  simp only [arrV4, ht, if_true] at h1
  rw [vp_cell_i] at h1
  exact W.alen (n := nI n) hX.1 hX.2.1 h1 (h2 n _) (by rw [arrV_size]; rfl) rfl rfl d (k H locs lsA hR hz hl hL)
theorem r_bald (hX : OK X D cc own nL) {a n j : Nat} {i : Int32} (d : decode cc pc = .ok (.baload, 1)) (ha : a < G.1) (hs : G.2.1 a = (20, n)) (hi : i = nI j) (hj : j < n) (hn : n < 2 ^ 31) (k : J X D nL c w G I L (pc + 1) ls (.int (I a j) :: st)) : J X D nL c w G I L pc ls (.int i :: .ref a :: st) := by
  obtain ⟨p, l, e, R, s, m, args, below, meth, c0, Q⟩ := X
  intro H locs lsA hR hz hl hL
  subst hi
  obtain ⟨h1, h2⟩ := arr_rd (t := 0) hX.2.2.2.2.2.1 (hR.2.2.2 a ha) hs (by omega)
  have hta := hR.ta ha
  show W _ _ _ _ _ _ _ _ _ _ _ _ _ _ _ (F0 m pc lsA (.int (nI j) :: .ref (ta D a) :: st.map (tv D)))
  rw [hta]
  have h1 : H[D.1 + a]? = some (arrV (D.2.2.2.2.1 0) n (fun q => .int (I a q))) := h1
  exact W.bald (v := .int (I a j)) hX.1 hX.2.1 h1 (h2 n _) (fun q => by cases q) (by rw [arrV_size]; exact vp_in_nI hj hn) (by rw [nI_clamp (Nat.lt_trans hj hn), arrV_read _ _ hj]) rfl rfl d (k H locs lsA hR hz hl hL)
theorem r_cald (hX : OK X D cc own nL) {a n j : Nat} {i : Int32} (d : decode cc pc = .ok (.caload, 1)) (ha : a < G.1) (hs : G.2.1 a = (21, n)) (hi : i = nI j) (hj : j < n) (hn : n < 2 ^ 31) (k : J X D nL c w G I L (pc + 1) ls (.int (I a j) :: st)) : J X D nL c w G I L pc ls (.int i :: .ref a :: st) := by
  obtain ⟨p, l, e, R, s, m, args, below, meth, c0, Q⟩ := X
  intro H locs lsA hR hz hl hL
  subst hi
  obtain ⟨h1, h2⟩ := arr_rd (t := 1) hX.2.2.2.2.2.1 (hR.2.2.2 a ha) hs (by omega)
  have hta := hR.ta ha
  show W _ _ _ _ _ _ _ _ _ _ _ _ _ _ _ (F0 m pc lsA (.int (nI j) :: .ref (ta D a) :: st.map (tv D)))
  rw [hta]
  have h1 : H[D.1 + a]? = some (arrV (D.2.2.2.2.1 1) n (fun q => .int (I a q))) := h1
  exact W.cald (v := .int (I a j)) hX.1 hX.2.1 h1 (h2 n _) (fun q => by cases q) (by rw [arrV_size]; exact vp_in_nI hj hn) (by rw [nI_clamp (Nat.lt_trans hj hn), arrV_read _ _ hj]) rfl rfl d (k H locs lsA hR hz hl hL)
theorem r_iald (hX : OK X D cc own nL) {a n j : Nat} {i : Int32} (d : decode cc pc = .ok (.iaload, 1)) (ha : a < G.1) (hs : G.2.1 a = (22, n)) (hi : i = nI j) (hj : j < n) (hn : n < 2 ^ 31) (k : J X D nL c w G I L (pc + 1) ls (.int (I a j) :: st)) : J X D nL c w G I L pc ls (.int i :: .ref a :: st) := by
  obtain ⟨p, l, e, R, s, m, args, below, meth, c0, Q⟩ := X
  intro H locs lsA hR hz hl hL
  subst hi
  obtain ⟨h1, h2⟩ := arr_rd (t := 2) hX.2.2.2.2.2.1 (hR.2.2.2 a ha) hs (by omega)
  have hta := hR.ta ha
  show W _ _ _ _ _ _ _ _ _ _ _ _ _ _ _ (F0 m pc lsA (.int (nI j) :: .ref (ta D a) :: st.map (tv D)))
  rw [hta]
  have h1 : H[D.1 + a]? = some (arrV (D.2.2.2.2.1 2) n (fun q => .int (I a q))) := h1
  exact W.iald (v := .int (I a j)) hX.1 hX.2.1 h1 (h2 n _) (fun q => by cases q) (by rw [arrV_size]; exact vp_in_nI hj hn) (by rw [nI_clamp (Nat.lt_trans hj hn), arrV_read _ _ hj]) rfl rfl d (k H locs lsA hR hz hl hL)
theorem r_zald (hX : OK X D cc own nL) {a n j : Nat} {i : Int32} (d : decode cc pc = .ok (.baload, 1)) (ha : a < G.1) (hs : G.2.1 a = (23, n)) (hi : i = nI j) (hj : j < n) (hn : n < 2 ^ 31) (k : J X D nL c w G I L (pc + 1) ls (.int (I a j) :: st)) : J X D nL c w G I L pc ls (.int i :: .ref a :: st) := by
  obtain ⟨p, l, e, R, s, m, args, below, meth, c0, Q⟩ := X
  intro H locs lsA hR hz hl hL
  subst hi
  obtain ⟨h1, h2⟩ := arr_rd (t := 3) hX.2.2.2.2.2.1 (hR.2.2.2 a ha) hs (by omega)
  have hta := hR.ta ha
  show W _ _ _ _ _ _ _ _ _ _ _ _ _ _ _ (F0 m pc lsA (.int (nI j) :: .ref (ta D a) :: st.map (tv D)))
  rw [hta]
  have h1 : H[D.1 + a]? = some (arrV (D.2.2.2.2.1 3) n (fun q => .int (I a q))) := h1
  exact W.zald (v := .int (I a j)) hX.1 hX.2.1 h1 (h2 n _) (fun q => by cases q) (by rw [arrV_size]; exact vp_in_nI hj hn) (by rw [nI_clamp (Nat.lt_trans hj hn), arrV_read _ _ hj]) rfl rfl d (k H locs lsA hR hz hl hL)
theorem r_bast (hX : OK X D cc own nL) {a n j : Nat} {i x y : Int32} (d : decode cc pc = .ok (.bastore, 1)) (ha : a < G.1) (hs : G.2.1 a = (20, n)) (hi : i = nI j) (hj : j < n) (hn : n < 2 ^ 31) (hy : (vp_nar .byte x) = y) (k : J X D nL c w G (up2 I a j y) L (pc + 1) ls st) : J X D nL c w G I L pc ls (.int x :: .int i :: .ref a :: st) := by
  obtain ⟨p, l, e, R, s, m, args, below, meth, c0, Q⟩ := X
  intro H locs lsA hR hz hl hL
  subst hi
  subst hy
  obtain ⟨h1, h2⟩ := arr_rd (t := 0) hX.2.2.2.2.2.1 (hR.2.2.2 a ha) hs (by omega)
  have hta := hR.ta ha
  show W _ _ _ _ _ _ _ _ _ _ _ _ _ _ _ (F0 m pc lsA (.int x :: .int (nI j) :: .ref (ta D a) :: st.map (tv D)))
  rw [hta]
  have h1 : H[D.1 + a]? = some (arrV (D.2.2.2.2.1 0) n (fun q => .int (I a q))) := h1
  refine W.bast hX.1 hX.2.1 h1 (h2 n _) (fun q => by cases q) (by rw [arrV_size]; exact vp_in_nI hj hn) rfl rfl d fun H1 e1 z1 o1 => ?_
  refine k H1 _ lsA (hR.set rfl rfl (fun _ _ => rfl) (fun k h => up2_ne h) (fun _ _ => rfl) (fun _ _ => rfl) z1 o1 (CR.to_ar (t := 0) hs (by omega) ?_)) (by rw [z1]; exact hz) (fun q hq => ?_) hL
  · rw [e1, nI_clamp (Nat.lt_trans hj hn), arrV_store]
    show some (arrV _ _ _) = some (arrV (D.2.2.2.2.1 0) n (fun q => .int (up2 I a j (vp_nar .byte x) a q)))
    congr 2
    funext q
    by_cases hq : q = j
    · subst hq
      simp [updV, up2, vp_nar]
      try rfl
    · simp [updV, up2, hq]
  · rcases List.mem_append.mp hq with h | h
    · exact hl q h
    · rw [List.mem_singleton.mp h]; exact Nat.le_add_right _ _
theorem r_cast (hX : OK X D cc own nL) {a n j : Nat} {i x y : Int32} (d : decode cc pc = .ok (.castore, 1)) (ha : a < G.1) (hs : G.2.1 a = (21, n)) (hi : i = nI j) (hj : j < n) (hn : n < 2 ^ 31) (hy : (vp_nar .char x) = y) (k : J X D nL c w G (up2 I a j y) L (pc + 1) ls st) : J X D nL c w G I L pc ls (.int x :: .int i :: .ref a :: st) := by
  obtain ⟨p, l, e, R, s, m, args, below, meth, c0, Q⟩ := X
  intro H locs lsA hR hz hl hL
  subst hi
  subst hy
  obtain ⟨h1, h2⟩ := arr_rd (t := 1) hX.2.2.2.2.2.1 (hR.2.2.2 a ha) hs (by omega)
  have hta := hR.ta ha
  show W _ _ _ _ _ _ _ _ _ _ _ _ _ _ _ (F0 m pc lsA (.int x :: .int (nI j) :: .ref (ta D a) :: st.map (tv D)))
  rw [hta]
  have h1 : H[D.1 + a]? = some (arrV (D.2.2.2.2.1 1) n (fun q => .int (I a q))) := h1
  refine W.cast hX.1 hX.2.1 h1 (h2 n _) (fun q => by cases q) (by rw [arrV_size]; exact vp_in_nI hj hn) rfl rfl d fun H1 e1 z1 o1 => ?_
  refine k H1 _ lsA (hR.set rfl rfl (fun _ _ => rfl) (fun k h => up2_ne h) (fun _ _ => rfl) (fun _ _ => rfl) z1 o1 (CR.to_ar (t := 1) hs (by omega) ?_)) (by rw [z1]; exact hz) (fun q hq => ?_) hL
  · rw [e1, nI_clamp (Nat.lt_trans hj hn), arrV_store]
    show some (arrV _ _ _) = some (arrV (D.2.2.2.2.1 1) n (fun q => .int (up2 I a j (vp_nar .char x) a q)))
    congr 2
    funext q
    by_cases hq : q = j
    · subst hq
      simp [updV, up2, vp_nar]
      try rfl
    · simp [updV, up2, hq]
  · rcases List.mem_append.mp hq with h | h
    · exact hl q h
    · rw [List.mem_singleton.mp h]; exact Nat.le_add_right _ _
theorem r_iast (hX : OK X D cc own nL) {a n j : Nat} {i x y : Int32} (d : decode cc pc = .ok (.iastore, 1)) (ha : a < G.1) (hs : G.2.1 a = (22, n)) (hi : i = nI j) (hj : j < n) (hn : n < 2 ^ 31) (hy : x = y) (k : J X D nL c w G (up2 I a j y) L (pc + 1) ls st) : J X D nL c w G I L pc ls (.int x :: .int i :: .ref a :: st) := by
  obtain ⟨p, l, e, R, s, m, args, below, meth, c0, Q⟩ := X
  intro H locs lsA hR hz hl hL
  subst hi
  subst hy
  obtain ⟨h1, h2⟩ := arr_rd (t := 2) hX.2.2.2.2.2.1 (hR.2.2.2 a ha) hs (by omega)
  have hta := hR.ta ha
  show W _ _ _ _ _ _ _ _ _ _ _ _ _ _ _ (F0 m pc lsA (.int x :: .int (nI j) :: .ref (ta D a) :: st.map (tv D)))
  rw [hta]
  have h1 : H[D.1 + a]? = some (arrV (D.2.2.2.2.1 2) n (fun q => .int (I a q))) := h1
  refine W.iast hX.1 hX.2.1 h1 (h2 n _) (fun q => by cases q) (by rw [arrV_size]; exact vp_in_nI hj hn) rfl rfl d fun H1 e1 z1 o1 => ?_
  refine k H1 _ lsA (hR.set rfl rfl (fun _ _ => rfl) (fun k h => up2_ne h) (fun _ _ => rfl) (fun _ _ => rfl) z1 o1 (CR.to_ar (t := 2) hs (by omega) ?_)) (by rw [z1]; exact hz) (fun q hq => ?_) hL
  · rw [e1, nI_clamp (Nat.lt_trans hj hn), arrV_store]
    show some (arrV _ _ _) = some (arrV (D.2.2.2.2.1 2) n (fun q => .int (up2 I a j x a q)))
    congr 2
    funext q
    by_cases hq : q = j
    · subst hq
      simp [updV, up2, vp_nar]
      try rfl
    · simp [updV, up2, hq]
  · rcases List.mem_append.mp hq with h | h
    · exact hl q h
    · rw [List.mem_singleton.mp h]; exact Nat.le_add_right _ _
theorem r_zast (hX : OK X D cc own nL) {a n j : Nat} {i x y : Int32} (d : decode cc pc = .ok (.bastore, 1)) (ha : a < G.1) (hs : G.2.1 a = (23, n)) (hi : i = nI j) (hj : j < n) (hn : n < 2 ^ 31) (hy : (vp_nar .boolean x) = y) (k : J X D nL c w G (up2 I a j y) L (pc + 1) ls st) : J X D nL c w G I L pc ls (.int x :: .int i :: .ref a :: st) := by
  obtain ⟨p, l, e, R, s, m, args, below, meth, c0, Q⟩ := X
  intro H locs lsA hR hz hl hL
  subst hi
  subst hy
  obtain ⟨h1, h2⟩ := arr_rd (t := 3) hX.2.2.2.2.2.1 (hR.2.2.2 a ha) hs (by omega)
  have hta := hR.ta ha
  show W _ _ _ _ _ _ _ _ _ _ _ _ _ _ _ (F0 m pc lsA (.int x :: .int (nI j) :: .ref (ta D a) :: st.map (tv D)))
  rw [hta]
  have h1 : H[D.1 + a]? = some (arrV (D.2.2.2.2.1 3) n (fun q => .int (I a q))) := h1
  refine W.zast hX.1 hX.2.1 h1 (h2 n _) (fun q => by cases q) (by rw [arrV_size]; exact vp_in_nI hj hn) rfl rfl d fun H1 e1 z1 o1 => ?_
  refine k H1 _ lsA (hR.set rfl rfl (fun _ _ => rfl) (fun k h => up2_ne h) (fun _ _ => rfl) (fun _ _ => rfl) z1 o1 (CR.to_ar (t := 3) hs (by omega) ?_)) (by rw [z1]; exact hz) (fun q hq => ?_) hL
  · rw [e1, nI_clamp (Nat.lt_trans hj hn), arrV_store]
    show some (arrV _ _ _) = some (arrV (D.2.2.2.2.1 3) n (fun q => .int (up2 I a j (vp_nar .boolean x) a q)))
    congr 2
    funext q
    by_cases hq : q = j
    · subst hq
      simp [updV, up2, vp_nar]
      try rfl
    · simp [updV, up2, hq]
  · rcases List.mem_append.mp hq with h | h
    · exact hl q h
    · rw [List.mem_singleton.mp h]; exact Nat.le_add_right _ _
theorem r_aald (hX : OK X D cc own nL) {a n j b : Nat} {i : Int32} (d : decode cc pc = .ok (.aaload, 1)) (ha : a < G.1) (hs : G.2.1 a = (24, n)) (hi : i = nI j) (hj : j < n) (hn : n < 2 ^ 31) (hb : G.2.2 a j = some b) (k : J X D nL c w G I L (pc + 1) ls (.ref b :: st)) : J X D nL c w G I L pc ls (.int i :: .ref a :: st) := by
  obtain ⟨p, l, e, R, s, m, args, below, meth, c0, Q⟩ := X
  intro H locs lsA hR hz hl hL
  subst hi
  obtain ⟨h1, h2⟩ := arr_rd (t := 4) hX.2.2.2.2.2.1 (hR.2.2.2 a ha) hs (by omega)
  have hta := hR.ta ha
  show W _ _ _ _ _ _ _ _ _ _ _ _ _ _ _ (F0 m pc lsA (.int (nI j) :: .ref (ta D a) :: st.map (tv D)))
  rw [hta]
  have h1 : H[D.1 + a]? = some (arrV (D.2.2.2.2.1 4) n (fun q => va_rf ((G.2.2 a q).map (ta D)))) := h1
  exact W.aald (v := .ref (ta D b)) (ty := arrTy 4) hX.1 hX.2.1 h1 (h2 n _) rfl (fun q => by cases q) (by rw [arrV_size]; exact vp_in_nI hj hn) (by rw [nI_clamp (Nat.lt_trans hj hn), arrV_read _ _ hj, hb]; rfl) rfl rfl d (k H locs lsA hR hz hl hL)
theorem r_laldL (hX : OK X D cc own nL) {a n j : Nat} {i : Int32} (d : decode cc pc = .ok (.laload, 1)) (ha : a < G.1) (hs : G.2.1 a = (25, n)) (hi : i = nI j) (hj : j < n) (hn : n < 2 ^ 31) (k : J X D nL c w G I L (pc + 1) ls (.long (L.1 a j) :: st)) : J X D nL c w G I L pc ls (.int i :: .ref a :: st) := by
  obtain ⟨p, l, e, R, s, m, args, below, meth, c0, Q⟩ := X
  intro H locs lsA hR hz hl hL
  subst hi
  obtain ⟨h1, h2⟩ := arr_rd (t := 5) hX.2.2.2.2.2.1 (hR.2.2.2 a ha) hs (by omega)
  have hta := hR.ta ha
  show W _ _ _ _ _ _ _ _ _ _ _ _ _ _ _ (F0 m pc lsA (.int (nI j) :: .ref (ta D a) :: st.map (tv D)))
  rw [hta]
  have h1 : H[D.1 + a]? = some (arrV (D.2.2.2.2.1 5) n (fun q => .long (L.1 a q))) := h1
  exact W.lald (v := .long (L.1 a j)) hX.1 hX.2.1 h1 (h2 n _) (fun q => by cases q) (by rw [arrV_size]; exact vp_in_nI hj hn) (by rw [nI_clamp (Nat.lt_trans hj hn), arrV_read _ _ hj]) rfl rfl d (k H locs lsA hR hz hl hL)
theorem r_dald (hX : OK X D cc own nL) {a n j : Nat} {i : Int32} (d : decode cc pc = .ok (.daload, 1)) (ha : a < G.1) (hs : G.2.1 a = (26, n)) (hi : i = nI j) (hj : j < n) (hn : n < 2 ^ 31) (k : J X D nL c w G I L (pc + 1) ls (.double (L.2 a j) :: st)) : J X D nL c w G I L pc ls (.int i :: .ref a :: st) := by
  obtain ⟨p, l, e, R, s, m, args, below, meth, c0, Q⟩ := X
  intro H locs lsA hR hz hl hL
  subst hi
  obtain ⟨h1, h2⟩ := arr_rd (t := 6) hX.2.2.2.2.2.1 (hR.2.2.2 a ha) hs (by omega)
  have hta := hR.ta ha
  show W _ _ _ _ _ _ _ _ _ _ _ _ _ _ _ (F0 m pc lsA (.int (nI j) :: .ref (ta D a) :: st.map (tv D)))
  rw [hta]
  have h1 : H[D.1 + a]? = some (arrV (D.2.2.2.2.1 6) n (fun q => .double (L.2 a q))) := h1
  exact W.dald (v := .double (L.2 a j)) hX.1 hX.2.1 h1 (h2 n _) (fun q => by cases q) (by rw [arrV_size]; exact vp_in_nI hj hn) (by rw [nI_clamp (Nat.lt_trans hj hn), arrV_read _ _ hj]) rfl rfl d (k H locs lsA hR hz hl hL)
theorem r_last (hX : OK X D cc own nL) {a n j : Nat} {i : Int32} {x : Int64} (d : decode cc pc = .ok (.lastore, 1)) (ha : a < G.1) (hs : G.2.1 a = (25, n)) (hi : i = nI j) (hj : j < n) (hn : n < 2 ^ 31) (k : J X D nL c w G I (up2 L.1 a j x, L.2) (pc + 1) ls st) : J X D nL c w G I L pc ls (.long x :: .int i :: .ref a :: st) := by
  obtain ⟨p, l, e, R, s, m, args, below, meth, c0, Q⟩ := X
  intro H locs lsA hR hz hl hL
  subst hi
  obtain ⟨h1, h2⟩ := arr_rd (t := 5) hX.2.2.2.2.2.1 (hR.2.2.2 a ha) hs (by omega)
  have hta := hR.ta ha
  show W _ _ _ _ _ _ _ _ _ _ _ _ _ _ _ (F0 m pc lsA (.long x :: .int (nI j) :: .ref (ta D a) :: st.map (tv D)))
  rw [hta]
  have h1 : H[D.1 + a]? = some (arrV (D.2.2.2.2.1 5) n (fun q => .long (L.1 a q))) := h1
  refine W.last hX.1 hX.2.1 h1 (h2 n _) (fun q => by cases q) (by rw [arrV_size]; exact vp_in_nI hj hn) rfl rfl d fun H1 e1 z1 o1 => ?_
  refine k H1 _ lsA (hR.set rfl rfl (fun _ _ => rfl) (fun _ _ => rfl) (fun k h => up2_ne h) (fun k h => rfl) z1 o1 (CR.to_ar (t := 5) hs (by omega) ?_)) (by rw [z1]; exact hz) (fun q hq => ?_) hL
  · rw [e1, nI_clamp (Nat.lt_trans hj hn), arrV_store]
    show some (arrV _ _ _) = some (arrV (D.2.2.2.2.1 5) n (fun q => .long (up2 L.1 a j x a q)))
    congr 2
    funext q
    by_cases hq : q = j
    · subst hq
      simp [updV, up2]
    · simp [updV, up2, hq]
  · rcases List.mem_append.mp hq with h | h
    · exact hl q h
    · rw [List.mem_singleton.mp h]; exact Nat.le_add_right _ _
theorem r_dast (hX : OK X D cc own nL) {a n j : Nat} {i : Int32} {x : UInt64} (d : decode cc pc = .ok (.dastore, 1)) (ha : a < G.1) (hs : G.2.1 a = (26, n)) (hi : i = nI j) (hj : j < n) (hn : n < 2 ^ 31) (k : J X D nL c w G I (L.1, up2 L.2 a j x) (pc + 1) ls st) : J X D nL c w G I L pc ls (.double x :: .int i :: .ref a :: st) := by
  obtain ⟨p, l, e, R, s, m, args, below, meth, c0, Q⟩ := X
  intro H locs lsA hR hz hl hL
  subst hi
  obtain ⟨h1, h2⟩ := arr_rd (t := 6) hX.2.2.2.2.2.1 (hR.2.2.2 a ha) hs (by omega)
  have hta := hR.ta ha
  show W _ _ _ _ _ _ _ _ _ _ _ _ _ _ _ (F0 m pc lsA (.double x :: .int (nI j) :: .ref (ta D a) :: st.map (tv D)))
  rw [hta]
  have h1 : H[D.1 + a]? = some (arrV (D.2.2.2.2.1 6) n (fun q => .double (L.2 a q))) := h1
  refine W.dast hX.1 hX.2.1 h1 (h2 n _) (fun q => by cases q) (by rw [arrV_size]; exact vp_in_nI hj hn) rfl rfl d fun H1 e1 z1 o1 => ?_
  refine k H1 _ lsA (hR.set rfl rfl (fun _ _ => rfl) (fun _ _ => rfl) (fun k h => rfl) (fun k h => up2_ne h) z1 o1 (CR.to_ar (t := 6) hs (by omega) ?_)) (by rw [z1]; exact hz) (fun q hq => ?_) hL
  · rw [e1, nI_clamp (Nat.lt_trans hj hn), arrV_store]
    show some (arrV _ _ _) = some (arrV (D.2.2.2.2.1 6) n (fun q => .double (up2 L.2 a j x a q)))
    congr 2
    funext q
    by_cases hq : q = j
    · subst hq
      simp [updV, up2]
    · simp [updV, up2, hq]
  · rcases List.mem_append.mp hq with h | h
    · exact hl q h
    · rw [List.mem_singleton.mp h]; exact Nat.le_add_right _ _
end Arr
/-! ===== what is made ===== -/
def gNew (G : GT) (tag n : Nat) : GT := (G.1 + 1, fun k => if k = G.1 then (tag, n) else G.2.1 k, fun k => if k = G.1 then (fun _ => none) else G.2.2 k)
def iNew (G : GT) (I : IT) : IT := fun k => if k = G.1 then (fun _ => 0) else I k
def lNew (G : GT) (L : LT) : LT := (fun k => if k = G.1 then (fun _ => 0) else L.1 k, fun k => if k = G.1 then (fun _ => 0) else L.2 k)
/-- the room of a method whose calls go d deep -/
def rmD (d mc ms : Nat) : Room := { frames := d, cells := mc, slots := ms, locals := 64 * d + 64 }
/-- the room that the frame's method has -/
def Room2 (X : XT) (l0 : Launch) (D : DT) (d mc ms : Nat) : Prop := match X with
  | (p, l, e, R, s, m, args, below, meth, c, Q) => l = l0 ∧ d ≤ R.frames ∧ 64 * d + 64 ≤ R.locals ∧ mc ≤ R.cells ∧ ms ≤ R.slots ∧ s.heap.size + R.cells < D.1 + 1000000
theorem Rel.pushNew {D : DT} {G : GT} {I : IT} {L : LT} {H H' : Heap} {tag n : Nat} (h : Rel D G I L H) (hb : G.1 + 1 < 1000000) (hz : H'.size = D.1 + G.1 + 1) (ho : ∀ q, q < D.1 + G.1 → H'[q]? = H[q]?) (hc : CR D (gNew G tag n) (iNew G I) (lNew G L) H' G.1) : Rel D (gNew G tag n) (iNew G I) (lNew G L) H' := by
  have ne : ∀ k, k < G.1 → k ≠ G.1 := fun k hk => Nat.ne_of_lt hk
  exact h.push rfl hb (fun k hk => if_neg (ne k hk)) (fun k hk => if_neg (ne k hk)) (fun k hk => if_neg (ne k hk)) (fun k hk => if_neg (ne k hk)) (fun k hk => if_neg (ne k hk)) hz ho hc
def NW (own : String) (idx ci N : Nat) : Prop := ∃ r, vwCl[ci]? = some r ∧ ci < 20 ∧ r.2.2 = N ∧ Cond.classLink own idx r.1 ∈ TW ∧ Cond.instantiable r.1 N ∈ TW ∧ Cond.initialized r.1 ∈ TW ∧ ∀ (ty : Nat → FieldType) (j : Nat), (∀ k, k < N → parseFieldDescriptor (r.2.1 k).2.2.1 = some (ty k)) → j < N → defaultValue (ty j) = if isR ci j = true then .null else .int 0
section New
variable {X : XT} {D : DT} {cc : ByteArray} {own : String} {nL c w : Nat} {G : GT} {I : IT} {L : LT} {pc : Nat} {ls st : List Value}
theorem r_new (hX : OK X D cc own nL) {d mc ms idx ci N : Nat} {l0 : Launch} (hroom : Room2 X l0 D d mc ms) (gf : NW own idx ci N) (dd : decode cc pc = .ok (.new idx, 3)) (h1 : c + 1 ≤ mc) (h2 : w + N ≤ ms) (hb : G.1 + 1 < 1000000) (k : J X D nL (c + 1) (w + N) (gNew G ci 0) (iNew G I) (lNew G L) (pc + 3) ls (.ref G.1 :: st)) : J X D nL c w G I L pc ls st := by
  obtain ⟨p, l, e, R, s, m, args, below, meth, c0, Q⟩ := X
  intro H locs lsA hR hz hl hL
  obtain ⟨r, hr, hc, hN, g1, g2, g3, g4⟩ := gf
  obtain ⟨hx, hby, -, hown, hts, hF, -⟩ := hX
  obtain ⟨-, -, -, R1, R2, -⟩ := hroom
  have hKn := hF.1.1 ci _ hr
  have hin := vw_in ci r hr
  obtain ⟨ty, hty⟩ := vw_ty ci r hr
  refine W.newcK hx hby hown (hts _ g1) (hts _ g2) (hts _ g3) rfl dd (by omega) (by omega) hKn.2.1 (h := D.1 + G.1) hR.1 fun H1 kC hkC e1 z1 o1 => ?_
  have hk := k H1 locs lsA (hR.pushNew hb z1 o1 (CR.to_ob (ci := ci) (z := 0) (r := r) (if_pos rfl) hc hr ?_)) (by have := hR.1; omega) hl hL
  · simp only [List.map_cons] at hk
    have ht : tv D (.ref G.1) = .ref (D.1 + G.1) := by show Value.ref (ta D G.1) = _; rw [ta_lt D hR.2.1]
    rw [ht] at hk
    exact hk
  · refine (u_born ty hts hin hKn hkC e1 hty).to fun j hj => ?_
    rw [g4 ty j (by rw [← hN]; exact hty) (by omega)]
    simp only [fval, gNew, iNew, if_true]
    split <;> rfl
theorem findA {s : State} {D : DT} (hF : Facts D s) {t : Nat} (h : t < 7) (h4 : t ≠ 4) {cA : ClassId} (hf : s.vm.findClass ("[" ++ (arrTy t).toString) = some cA) : cA = D.2.2.2.2.1 t := by
  have h1 := (hF.1.2 t _ (tysL_at D h)).2
  match t, h, h4 with
  | 0, _, _ => exact Option.some.inj (hf.symm.trans h1)
  | 1, _, _ => exact Option.some.inj (hf.symm.trans h1)
  | 2, _, _ => exact Option.some.inj (hf.symm.trans h1)
  | 3, _, _ => exact Option.some.inj (hf.symm.trans h1)
  | 4, _, h4 => exact absurd rfl h4
  | 5, _, _ => exact Option.some.inj (hf.symm.trans h1)
  | 6, _, _ => exact Option.some.inj (hf.symm.trans h1)
theorem r_newa (hX : OK X D cc own nL) {d mc ms t N : Nat} {atype : ArrayType} {x : Int32} {l0 : Launch} (hroom : Room2 X l0 D d mc ms) (ht : newarray.typeOf atype = arrTy t) (h7 : t < 7) (h4 : t ≠ 4) (hw : Cond.arrayClass (arrTy t) ∈ TW) (dd : decode cc pc = .ok (.newarray atype, 2)) (hx2 : x = nI N) (hN : N < 100000) (h1 : c + 1 ≤ mc) (h2 : w + N ≤ ms) (hb : G.1 + 1 < 1000000) (k : J X D nL (c + 1) (w + N) (gNew G (20 + t) N) (iNew G I) (lNew G L) (pc + 2) ls (.ref G.1 :: st)) : J X D nL c w G I L pc ls (.int x :: st) := by
  obtain ⟨p, l, e, R, s, m, args, below, meth, c0, Q⟩ := X
  intro H locs lsA hR hz hl hL
  subst hx2
  obtain ⟨hx, hby, -, hown, hts, hF, -⟩ := hX
  obtain ⟨-, -, -, R1, R2, -⟩ := hroom
  have hbytes : N * componentBytes (newarray.typeOf atype) ≤ 536870912 := by
    have : componentBytes (newarray.typeOf atype) ≤ 8 := by cases atype <;> decide
    calc N * componentBytes (newarray.typeOf atype) ≤ 100000 * 8 := Nat.mul_le_mul (by omega) this
      _ ≤ _ := by decide
  refine va_newaK hx hby (by rw [ht]; exact hts _ hw) rfl dd rfl (nI_pos (by omega)) (nI_clamp (by omega)) hbytes (by omega) (by omega) (h := D.1 + G.1) hR.1 fun H1 cA e1 z1 o1 a1 f1 => ?_
  rw [ht] at e1 f1
  have hcA := findA hF h7 h4 f1
  have hk := k H1 locs lsA (hR.pushNew hb z1 o1 (CR.to_ar (t := t) (n := N) (if_pos rfl) h7 ?_)) (by have := hR.1; omega) hl hL
  · simp only [List.map_cons] at hk
    have ht : tv D (.ref G.1) = .ref (D.1 + G.1) := by show Value.ref (ta D G.1) = _; rw [ta_lt D hR.2.1]
    rw [ht] at hk
    exact hk
  · rw [e1, hcA]
    have fin : ∀ (v4 : (Nat → Int32) ⊕ (Nat → Int64) ⊕ (Nat → UInt32) ⊕ (Nat → UInt64) ⊕ (Nat → Option Nat)), arrV4 D (gNew G (20 + t) N) (iNew G I) (lNew G L) t G.1 = v4 → some (arrV (D.2.2.2.2.1 t) N (fun _ => defaultValue (arrTy t))) = some (vp_cell (D.2.2.2.2.1 t) (N, v4)) → some (arrV (D.2.2.2.2.1 t) N (fun _ => defaultValue (arrTy t))) = some (vp_cell (D.2.2.2.2.1 t) (N, arrV4 D (gNew G (20 + t) N) (iNew G I) (lNew G L) t G.1)) := fun v4 h1 h2 => by rw [h1]; exact h2
    match t, h7, h4 with
    | 0, _, _ => exact fin (.inl (fun _ => 0)) (by simp [arrV4, iNew]) rfl
    | 1, _, _ => exact fin (.inl (fun _ => 0)) (by simp [arrV4, iNew]) rfl
    | 2, _, _ => exact fin (.inl (fun _ => 0)) (by simp [arrV4, iNew]) rfl
    | 3, _, _ => exact fin (.inl (fun _ => 0)) (by simp [arrV4, iNew]) rfl
    | 4, _, h4 => exact absurd rfl h4
    | 5, _, _ => exact fin (.inr (.inl (fun _ => 0))) (by simp [arrV4, lNew]) rfl
    | 6, _, _ => exact fin (.inr (.inr (.inr (.inl (fun _ => 0))))) (by simp [arrV4, lNew]) rfl
/-! ===== constants ===== -/
theorem r_gets (hX : OK X D cc own nL) {idx : Nat} {q : String × String × String × Value} (hq : q ∈ cZ) (hlink : Cond.fieldLink own idx q.1 q.2.1 q.2.2.1 ∈ TW) (d : decode cc pc = .ok (.getstatic idx, 3)) (k : J X D nL c w G I L (pc + 3) ls (q.2.2.2 :: st)) : J X D nL c w G I L pc ls st := by
  obtain ⟨p, l, e, R, s, m, args, below, meth, c0, Q⟩ := X
  intro H locs lsA hR hz hl hL
  obtain ⟨hx, hby, -, hown, hts, hF, -, hsz, h0⟩ := hX
  exact va_gets hx hby ((hF.2.1 q hq).kept (old_kept h0)) (Facts.S h0 hR hz hl) hown (hts _ hlink) (fun _ h => h) d (k H locs lsA hR hz hl hL)
theorem r_getsN (hX : OK X D cc own nL) {idx : Nat} {host : String} {q : String × String × String × Value} (hq : q ∈ cZ) (hlink : Cond.fieldLinkNest own idx q.1 q.2.1 q.2.2.1 host ∈ TW) (d : decode cc pc = .ok (.getstatic idx, 3)) (k : J X D nL c w G I L (pc + 3) ls (q.2.2.2 :: st)) : J X D nL c w G I L pc ls st := by
  obtain ⟨p, l, e, R, s, m, args, below, meth, c0, Q⟩ := X
  intro H locs lsA hR hz hl hL
  obtain ⟨hx, hby, -, hown, hts, hF, -, hsz, h0⟩ := hX
  exact va_getsN hx hby ((hF.2.1 q hq).kept (old_kept h0)) (Facts.S h0 hR hz hl) hown (hts _ hlink) (fun _ h => h) d (k H locs lsA hR hz hl hL)
theorem r_getC (hX : OK X D cc own nL) {idx code : Nat} {o n dd : String} {v : Value} (hq : (o, n, dd, v, code) ∈ cF) (hlink : Cond.fieldLink own idx o n dd ∈ TW) (d : decode cc pc = .ok (.getfield idx, 3)) (k : J X D nL c w G I L (pc + 3) ls (v :: st)) : J X D nL c w G I L pc ls (.ref (1000000 + code) :: st) := by
  obtain ⟨p, l, e, R, s, m, args, below, meth, c0, Q⟩ := X
  intro H locs lsA hR hz hl hL
  obtain ⟨hx, hby, -, hown, hts, hF, -, hsz, h0⟩ := hX
  exact vk_getf hx hby ((hF.2.2.1 _ hq).kept (old_kept h0)) (Facts.S h0 hR hz hl) hown (hts _ hlink) (fun _ h => h) d (k H locs lsA hR hz hl hL)
theorem cT_at {D : DT} {s : State} (hF : Facts D s) (h0 : ∀ q, q < D.1 → s.heap[q]? = D.2.1[q]?) {ty : FieldType} {code N : Nat} {vs : List Value} (hq : (ty, code, N, vs) ∈ cT) : va_T ty (ta D (1000000 + code)) N (fun j => tv D (vp_V vs j)) (Ad D) s s.heap := (hF.2.2.2.2.1 _ hq).kept (old_kept h0)
theorem r_lenC (hX : OK X D cc own nL) {code N : Nat} {ty : FieldType} {vs : List Value} (hq : (ty, code, N, vs) ∈ cT) (d : decode cc pc = .ok (.arraylength, 1)) (k : J X D nL c w G I L (pc + 1) ls (.int (nI N) :: st)) : J X D nL c w G I L pc ls (.ref (1000000 + code) :: st) := by
  obtain ⟨p, l, e, R, s, m, args, below, meth, c0, Q⟩ := X
  intro H locs lsA hR hz hl hL
  obtain ⟨hx, hby, -, hown, hts, hF, -, hsz, h0⟩ := hX
  exact va_tlen hx hby (cT_at hF h0 hq) (Facts.S h0 hR hz hl) rfl d (k H locs lsA hR hz hl hL)
theorem r_ialdC (hX : OK X D cc own nL) {code N j : Nat} {i : Int32} {v : Value} {vs : List Value} (hq : (FieldType.int, code, N, vs) ∈ cT) (d : decode cc pc = .ok (.iaload, 1)) (hi : i = nI j) (hj : j < N) (hn : N < 2 ^ 31) (hv : vp_V vs j = v) (k : J X D nL c w G I L (pc + 1) ls (v :: st)) : J X D nL c w G I L pc ls (.int i :: .ref (1000000 + code) :: st) := by
  obtain ⟨p, l, e, R, s, m, args, below, meth, c0, Q⟩ := X
  intro H locs lsA hR hz hl hL
  subst hi
  obtain ⟨hx, hby, -, hown, hts, hF, -, hsz, h0⟩ := hX
  exact va_ti (v := tv D v) hx hby (cT_at hF h0 hq) (Facts.S h0 hR hz hl) (vp_in_nI hj hn) (by rw [nI_clamp (Nat.lt_trans hj hn), hv]) d (k H locs lsA hR hz hl hL)
theorem r_baldC (hX : OK X D cc own nL) {code N j : Nat} {i : Int32} {v : Value} {vs : List Value} (hq : (FieldType.byte, code, N, vs) ∈ cT) (d : decode cc pc = .ok (.baload, 1)) (hi : i = nI j) (hj : j < N) (hn : N < 2 ^ 31) (hv : vp_V vs j = v) (k : J X D nL c w G I L (pc + 1) ls (v :: st)) : J X D nL c w G I L pc ls (.int i :: .ref (1000000 + code) :: st) := by
  obtain ⟨p, l, e, R, s, m, args, below, meth, c0, Q⟩ := X
  intro H locs lsA hR hz hl hL
  subst hi
  obtain ⟨hx, hby, -, hown, hts, hF, -, hsz, h0⟩ := hX
  exact va_tb (v := tv D v) hx hby (cT_at hF h0 hq) (Facts.S h0 hR hz hl) (vp_in_nI hj hn) (by rw [nI_clamp (Nat.lt_trans hj hn), hv]) d (k H locs lsA hR hz hl hL)
theorem r_aaldC (hX : OK X D cc own nL) {code N j : Nat} {i : Int32} {v : Value} {C : String} {vs : List Value} (hq : (FieldType.object C, code, N, vs) ∈ cT) (d : decode cc pc = .ok (.aaload, 1)) (hi : i = nI j) (hj : j < N) (hn : N < 2 ^ 31) (hv : vp_V vs j = v) (k : J X D nL c w G I L (pc + 1) ls (v :: st)) : J X D nL c w G I L pc ls (.int i :: .ref (1000000 + code) :: st) := by
  obtain ⟨p, l, e, R, s, m, args, below, meth, c0, Q⟩ := X
  intro H locs lsA hR hz hl hL
  subst hi
  obtain ⟨hx, hby, -, hown, hts, hF, -, hsz, h0⟩ := hX
  exact vb_tq (v := tv D v) hx hby (cT_at hF h0 hq) (Facts.S h0 hR hz hl) (vp_in_nI hj hn) (by rw [nI_clamp (Nat.lt_trans hj hn), hv]) d (k H locs lsA hR hz hl hL)
theorem r_ldcS (hX : OK X D cc own nL) {idx code : Nat} {tx : String} (hq : (own, idx, tx, code) ∈ cS) (d : decode cc pc = .ok (.ldc idx, 2)) (k : J X D nL c w G I L (pc + 2) ls (.ref (1000000 + code) :: st)) : J X D nL c w G I L pc ls st := by
  obtain ⟨p, l, e, R, s, m, args, below, meth, c0, Q⟩ := X
  intro H locs lsA hR hz hl hL
  obtain ⟨hx, hby, -, hown, hts, hF, -, hsz, h0⟩ := hX
  exact va_ldcS hx hby hown (hF.2.2.2.2.2.1 _ hq) d (k H locs lsA hR hz hl hL)
theorem r_ldcf (hX : OK X D cc own nL) {idx : Nat} {v : UInt32} (hq : Cond.constantFloat own idx v ∈ TW) (d : decode cc pc = .ok (.ldc idx, 2)) (k : J X D nL c w G I L (pc + 2) ls (.float v :: st)) : J X D nL c w G I L pc ls st := by
  obtain ⟨p, l, e, R, s, m, args, below, meth, c0, Q⟩ := X
  intro H locs lsA hR hz hl hL
  obtain ⟨hx, hby, -, hown, hts, hF, -, hsz, h0⟩ := hX
  exact lv_ldcf hx hby hown (hts _ hq) d (k H locs lsA hR hz hl hL)
theorem r_ldcw (hX : OK X D cc own nL) {idx : Nat} {v : Int32} (hq : Cond.constant own idx v ∈ TW) (d : decode cc pc = .ok (.ldc_w idx, 3)) (k : J X D nL c w G I L (pc + 3) ls (.int v :: st)) : J X D nL c w G I L pc ls st := by
  obtain ⟨p, l, e, R, s, m, args, below, meth, c0, Q⟩ := X
  intro H locs lsA hR hz hl hL
  obtain ⟨hx, hby, -, hown, hts, hF, -, hsz, h0⟩ := hX
  exact lv_ldcw hx hby hown (hts _ hq) d (k H locs lsA hR hz hl hL)
theorem r_ldc (hX : OK X D cc own nL) {idx : Nat} {v : Int32} (hq : Cond.constant own idx v ∈ TW) (d : decode cc pc = .ok (.ldc idx, 2)) (k : J X D nL c w G I L (pc + 2) ls (.int v :: st)) : J X D nL c w G I L pc ls st := by
  obtain ⟨p, l, e, R, s, m, args, below, meth, c0, Q⟩ := X
  intro H locs lsA hR hz hl hL
  obtain ⟨hx, hby, -, hown, hts, hF, -, hsz, h0⟩ := hX
  exact lv_ldc hx hby hown (hts _ hq) d (k H locs lsA hR hz hl hL)
theorem r_lcmp (hX : OK X D cc own nL) {x y : Int64} (d : decode cc pc = .ok (.lcmp, 1)) (k : J X D nL c w G I L (pc + 1) ls (.int (lg_cmp x y) :: st)) : J X D nL c w G I L pc ls (.long y :: .long x :: st) := by
  obtain ⟨p, l, e, R, s, m, args, below, meth, c0, Q⟩ := X
  intro H locs lsA hR hz hl hL
  exact W.lcmp hX.1 hX.2.1 d (k H locs lsA hR hz hl hL)
/-- two constants of one enum, by their codes -/
theorem r_acmpC (hX : OK X D cc own nL) {x y : Nat} {off : Int} {tgt : Nat} (hx25 : x < 25) (hy25 : y < 25) (d : decode cc pc = .ok (.if_acmp .ne off, 3)) (ht : (pc : Int) + off = (tgt : Int)) (kt : x ≠ y → J X D nL c w G I L tgt ls st) (kf : x = y → J X D nL c w G I L (pc + 3) ls st) : J X D nL c w G I L pc ls (.ref (1000000 + y) :: .ref (1000000 + x) :: st) := by
  obtain ⟨p, l, e, R, s, m, args, below, meth, c0, Q⟩ := X
  intro H locs lsA hR hz hl hL
  obtain ⟨hx, hby, -, hown, hts, hF, -, hsz, h0⟩ := hX
  refine lv_acmp_ne (rx := some (ta D (1000000 + x))) (ry := some (ta D (1000000 + y))) hx hby d ht (fun h => kt (fun e => h (by rw [e])) H locs lsA hR hz hl hL) (fun h => kf ?_ H locs lsA hR hz hl hL)
  exact hF.2.2.2.2.2.2.2.2 x hx25 y hy25 (Option.some.inj h)
theorem r_acmpCe (hX : OK X D cc own nL) {x y : Nat} {off : Int} {tgt : Nat} (hx25 : x < 25) (hy25 : y < 25) (d : decode cc pc = .ok (.if_acmp .eq off, 3)) (ht : (pc : Int) + off = (tgt : Int)) (kt : x = y → J X D nL c w G I L tgt ls st) (kf : x ≠ y → J X D nL c w G I L (pc + 3) ls st) : J X D nL c w G I L pc ls (.ref (1000000 + y) :: .ref (1000000 + x) :: st) := by
  obtain ⟨p, l, e, R, s, m, args, below, meth, c0, Q⟩ := X
  intro H locs lsA hR hz hl hL
  obtain ⟨hx, hby, -, hown, hts, hF, -, hsz, h0⟩ := hX
  refine lv_acmp_eq (rx := some (ta D (1000000 + x))) (ry := some (ta D (1000000 + y))) hx hby d ht (fun h => kt ?_ H locs lsA hR hz hl hL) (fun h => kf (fun e => h (by rw [e])) H locs lsA hR hz hl hL)
  exact hF.2.2.2.2.2.2.2.2 x hx25 y hy25 (Option.some.inj h)
end New
