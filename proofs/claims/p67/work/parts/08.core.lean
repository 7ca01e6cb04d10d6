/-! ===== the abstract memory ===== -/
abbrev GT : Type := Nat × (Nat → Nat × Nat) × (Nat → Nat → Option Nat)
abbrev Res : Type := Option Value ⊕ String
/-- start of the new cells, the old heap, classes, their slots, array classes, addresses of constants -/
abbrev DT : Type := Nat × Heap × (Nat → ClassId) × (Nat → Nat → Nat) × (Nat → ClassId) × (Nat → Nat)
def ta (D : DT) (k : Nat) : Nat := if k < 1000000 then D.1 + k else D.2.2.2.2.2 (k - 1000000)
def tv (D : DT) (v : Value) : Value := match v with
  | .ref k => .ref (ta D k)
  | v => v
theorem tv_rf (D : DT) (r : Option Nat) : tv D (va_rf r) = va_rf (r.map (ta D)) := by cases r <;> rfl
theorem tv_cat (D : DT) (v : Value) : (tv D v).category = v.category := by cases v <;> rfl
theorem ta_lt (D : DT) {k : Nat} (h : k < 1000000) : ta D k = D.1 + k := if_pos h
def refFields : List (List Nat) := [[0], [0], [0, 1, 2, 3, 5], [0, 1, 2, 3, 5], [0, 1, 2], [0, 1, 2], [0, 1, 2, 3, 4], [0, 1], [0, 1, 2, 3, 4], [0, 1, 2, 3, 4, 5, 6]]
def isR (ci j : Nat) : Bool := (refFields.getD ci []).contains j
def fval (D : DT) (R : Nat → Nat → Option Nat) (I : IT) (ci k j : Nat) : Value := if isR ci j = true then va_rf ((R k j).map (ta D)) else .int (I k j)
def arrTy : Nat → FieldType := fun t => match t with
  | 0 => .byte
  | 1 => .char
  | 2 => .int
  | 3 => .boolean
  | 4 => .object "TeaHouse$House"
  | 5 => .long
  | _ => .double
def arrV4 (D : DT) (G : GT) (I : IT) (L : LT) (t k : Nat) : (Nat → Int32) ⊕ (Nat → Int64) ⊕ (Nat → UInt32) ⊕ (Nat → UInt64) ⊕ (Nat → Option Nat) :=
  if t < 4 then .inl (I k) else if t = 4 then .inr (.inr (.inr (.inr (fun j => (G.2.2 k j).map (ta D))))) else if t = 5 then .inr (.inl (L.1 k)) else .inr (.inr (.inr (.inl (L.2 k))))
/-- cell k of the new ones, as it lies in the heap -/
def CR (D : DT) (G : GT) (I : IT) (L : LT) (H : Heap) (k : Nat) : Prop :=
  if (G.2.1 k).1 < 20 then ∃ r, vwCl[(G.2.1 k).1]? = some r ∧ t_OB (D.1 + k) (D.2.2.1 (G.2.1 k).1) r.2.2 (D.2.2.2.1 (G.2.1 k).1) H (fval D G.2.2 I (G.2.1 k).1 k)
  else if (G.2.1 k).1 < 25 then H[D.1 + k]? = some (vp_cell (D.2.2.2.2.1 ((G.2.1 k).1 - 20)) ((G.2.1 k).2, arrV4 D G I L ((G.2.1 k).1 - 20) k))
  else True
def Rel (D : DT) (G : GT) (I : IT) (L : LT) (H : Heap) : Prop := H.size = D.1 + G.1 ∧ G.1 < 1000000 ∧ (∀ q, q < D.1 → H[q]? = D.2.1[q]?) ∧ ∀ k, k < G.1 → CR D G I L H k
def Ad (D : DT) : Nat → Prop := fun q => D.1 ≤ q
def tysL (D : DT) : List (ClassId × FieldType) := [(D.2.2.2.2.1 0, arrTy 0), (D.2.2.2.2.1 1, arrTy 1), (D.2.2.2.2.1 2, arrTy 2), (D.2.2.2.2.1 3, arrTy 3), (D.2.2.2.2.1 4, arrTy 4)]
theorem tysL_at (D : DT) {t : Nat} (h : t < 5) : (tysL D)[t]? = some (D.2.2.2.2.1 t, arrTy t) := by
  match t, h with
  | 0, _ => rfl
  | 1, _ => rfl
  | 2, _ => rfl
  | 3, _ => rfl
  | 4, _ => rfl
/-- private methods of AbstractStringBuilder, called on a StringBuilder -/
def lw_sel2 : List Cond := [.selects "java/lang/StringBuilder" yJ5_ensureCapacityInternal_d00df yJ5_ensureCapacityInternal_d00df, .selects "java/lang/StringBuilder" yJ5_newCapacity_0f7a4 yJ5_newCapacity_0f7a4, .selects "java/lang/StringBuilder" yJ5_putStringAt_47b60 yJ5_putStringAt_47b60, .selects "java/lang/StringBuilder" yJ5_inflateIfNeededFor_a7421 yJ5_inflateIfNeededFor_a7421, .selects "java/lang/StringBuilder" yJ5_inflate_da8c8 yJ5_inflate_da8c8, .selects "java/lang/StringBuilder" yJ5_appendNull_278bc yJ5_appendNull_278bc]
theorem sel2_of {args : Array Value} {s : State} {C : String} {y z : MethodName} (hz : (Cond.selects C z z).before args s = true) (hzy : z.cls = y.cls) (hy : y.cls ≠ "java/lang/invoke/MethodHandle" ∧ y.cls ≠ "java/lang/invoke/VarHandle") (hpriv : (Cond.privateMethod y).before args s = true) (hinst : (Cond.instanceMethod y).before args s = true) : (Cond.selects C y y).before args s = true := by
  obtain ⟨c, r0, m0, hc, h1, h2, h3, k0, h4, h5⟩ := Cond.selects_spec hz
  obtain ⟨mk, methM, hnamed, hmethM, -, -⟩ := Cond.instanceMethod_spec hinst
  have hfound : s.methodFound? y.cls y.name y.desc = some mk := State.methodFound?_of_named hnamed hy
  have hcls : mk.cls = m0.cls := by
    have e1 := findClass_of_methodNamed hnamed
    have e2 := findClass_of_methodNamed h2
    rw [hzy] at e2
    exact Option.some.inj (e1.symm.trans e2)
  have hsel : selectMethod {} s.vm c mk = .method mk := selectMethod_private hmethM (Cond.privateMethod_at hpriv mk methM hnamed hmethM)
  have hk : s.vm.classes[mk.cls]? = some k0 := by rw [hcls]; exact h4
  simp only [Cond.before, Cond.holds, Cond.value, hc, hfound, hnamed, hsel, hk]
  simp; exact h5
/-- the words that stand behind a call as well -/
def gW (w : Cond) : Bool := match w with
  | .fieldLinkNest _ _ _ _ _ _ => true
  | .methodLinkNest _ _ _ _ => true
  | .declares _ => true
  | .castable _ _ => true
  | w => goodWord w
theorem gW_warm {args a' : Array Value} {s U : State} (hW : s.WarmedH U.vm) {w : Cond} (h : gW w = true) (hb : w.before args s = true) : w.before a' U = true := by
  cases w <;> first
    | exact va_Nw.use rfl (va_Nw.warmF hW (va_Nw.of rfl hb))
    | exact va_Nw.use rfl (va_Nw.warmM hW (va_Nw.of rfl hb))
    | exact va_Nw.use rfl (va_Nw.warmD hW (va_Nw.of rfl hb))
    | exact va_Nw.use rfl (va_Nw.warmC hW (va_Nw.of rfl hb))
    | exact word_at hW (good_of_word h) hb
theorem gW_ot {w : Cond} (h : gW w = true) : vx_ot w = true := by
  unfold vx_ot
  cases w <;> first
    | rfl
    | exact (Bool.or_eq_true _ _).mpr (Or.inr h)
def TW : List Cond := (lw_sel2 ++ lw_tbl).filter gW
theorem TW_good {w : Cond} (h : w ∈ TW) : gW w = true := (List.mem_filter.mp h).2
theorem TW_of {i : Nat} {w : Cond} (h : lw_tbl[i]? = some w) (g : gW w = true) : w ∈ TW := List.mem_filter.mpr ⟨List.mem_append_right _ (List.mem_of_getElem? h), g⟩
theorem TW_of2 {i : Nat} {w : Cond} (h : lw_sel2[i]? = some w) (g : gW w = true) : w ∈ TW := List.mem_filter.mpr ⟨List.mem_append_left _ (List.mem_of_getElem? h), g⟩
theorem TW_warm {args a' : Array Value} {s U : State} (hW : s.WarmedH U.vm) {w : Cond} (hw : w ∈ TW) (h : w.before args s = true) : w.before a' U = true := gW_warm hW (TW_good hw) h
/-! what the tables say of the classes -/
theorem vw_ty : ∀ (ci : Nat) (r : vw_C), vwCl[ci]? = some r → ∃ ty : Nat → FieldType, ∀ k, k < r.2.2 → parseFieldDescriptor (r.2.1 k).2.2.1 = some (ty k) := by
  intro ci r h
  match ci, h with
  | 0, h => cases h; exact ⟨_, tyJ0_ok⟩
  | 1, h => cases h; exact ⟨_, tyJ4_ok⟩
  | 2, h => cases h; exact ⟨_, tyJx00060_ok⟩
  | 3, h => cases h; exact ⟨_, tyJx7c733_ok⟩
  | 4, h => cases h; exact ⟨_, tyX1_ok⟩
  | 5, h => cases h; exact ⟨_, tyX2_ok⟩
  | 6, h => cases h; exact ⟨_, tyX3_ok⟩
  | 7, h => cases h; exact ⟨_, tyX4_ok⟩
  | 8, h => cases h; exact ⟨_, tyX5_ok⟩
  | 9, h => cases h; exact ⟨_, tyX8_ok⟩
  | n + 10, h => simp [vwCl] at h
theorem vw_nm : ∀ (ci : Nat) (r : vw_C), vwCl[ci]? = some r → ∀ a, a < r.2.2 → ∀ b, b < r.2.2 → a ≠ b → (r.2.1 a).2.1 ≠ (r.2.1 b).2.1 := by
  intro ci r h
  match ci, h with
  | 0, h => cases h; exact nmJ0
  | 1, h => cases h; exact nmJ4
  | 2, h => cases h; exact nmJx00060
  | 3, h => cases h; exact nmJx7c733
  | 4, h => cases h; exact nmX1
  | 5, h => cases h; exact nmX2
  | 6, h => cases h; exact nmX3
  | 7, h => cases h; exact nmX4
  | 8, h => cases h; exact nmX5
  | 9, h => cases h; exact nmX8
  | n + 10, h => simp [vwCl] at h
set_option maxRecDepth 100000 in
theorem vw_in : ∀ (ci : Nat) (r : vw_C), vwCl[ci]? = some r → ∀ w ∈ u_ws r.1 r.2.1 r.2.2, w ∈ TW := by
  intro ci r h
  have key : ∀ L : List Cond, (∀ w ∈ L, w ∈ lw_tbl) → (L.all gW = true) → ∀ w ∈ L, w ∈ TW := fun L h1 h2 w hw => List.mem_filter.mpr ⟨List.mem_append_right _ (h1 w hw), List.all_eq_true.mp h2 w hw⟩
  match ci, h with
  | 0, h => cases h; exact key _ (by decide +kernel) (by decide +kernel)
  | 1, h => cases h; exact key _ (by decide +kernel) (by decide +kernel)
  | 2, h => cases h; exact key _ (by decide +kernel) (by decide +kernel)
  | 3, h => cases h; exact key _ (by decide +kernel) (by decide +kernel)
  | 4, h => cases h; exact key _ (by decide +kernel) (by decide +kernel)
  | 5, h => cases h; exact key _ (by decide +kernel) (by decide +kernel)
  | 6, h => cases h; exact key _ (by decide +kernel) (by decide +kernel)
  | 7, h => cases h; exact key _ (by decide +kernel) (by decide +kernel)
  | 8, h => cases h; exact key _ (by decide +kernel) (by decide +kernel)
  | 9, h => cases h; exact key _ (by decide +kernel) (by decide +kernel)
  | n + 10, h => simp [vwCl] at h
