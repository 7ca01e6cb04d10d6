/-! ===== the start: what the tables say holds there ===== -/
theorem tw_all {args : Array Value} {s : State} (hts : ∀ w ∈ lw_tbl, w.before args s = true) : ∀ w ∈ TW, w.before args s = true := by
  intro w hw
  have hw := (List.mem_filter.mp hw).1
  rcases List.mem_append.mp hw with h | h
  · have hz : (Cond.selects "java/lang/StringBuilder" yJ5_isLatin1_aae02 yJ5_isLatin1_aae02).before args s = true := hts _ (by decide +kernel)
    have key : ∀ y : MethodName, y.cls = "java/lang/AbstractStringBuilder" → Cond.privateMethod y ∈ lw_tbl → Cond.instanceMethod y ∈ lw_tbl → (Cond.selects "java/lang/StringBuilder" y y).before args s = true := fun y h1 h2 h3 => sel2_of (z := yJ5_isLatin1_aae02) hz (by rw [h1]; decide +kernel) (by rw [h1]; exact ⟨by decide +kernel, by decide +kernel⟩) (hts _ h2) (hts _ h3)
    simp only [lw_sel2, List.mem_cons, List.not_mem_nil, or_false] at h
    rcases h with rfl | rfl | rfl | rfl | rfl | rfl
    · exact key _ (by decide +kernel) (by decide +kernel) (by decide +kernel)
    · exact key _ (by decide +kernel) (by decide +kernel) (by decide +kernel)
    · exact key _ (by decide +kernel) (by decide +kernel) (by decide +kernel)
    · exact key _ (by decide +kernel) (by decide +kernel) (by decide +kernel)
    · exact key _ (by decide +kernel) (by decide +kernel) (by decide +kernel)
    · exact key _ (by decide +kernel) (by decide +kernel) (by decide +kernel)
  · exact hts w h
theorem k_class {args : Array Value} {s : State} (hts : ∀ w ∈ lw_tbl, w.before args s = true) : ∀ (ci : Nat) (r : vw_C), vwCl[ci]? = some r → ∃ (cC : ClassId) (iS : Nat → Nat), u_Kn s r.1 r.2.1 r.2.2 cC iS := by
  have hT := tw_all hts
  have go : ∀ (ci : Nat) (r : vw_C) (i n : Nat), vwCl[ci]? = some r → lw_tbl[i]? = some (Cond.instantiable r.1 n) → ∃ (cC : ClassId) (iS : Nat → Nat), u_Kn s r.1 r.2.1 r.2.2 cC iS := fun ci r i n hr hi => u_known hT (vw_in ci r hr) (hts _ (List.mem_of_getElem? hi))
  intro ci r h
  match ci, h with
  | 0, h => exact go 0 r 933 4 h (by cases h; decide +kernel)
  | 1, h => exact go 1 r 257 4 h (by cases h; decide +kernel)
  | 2, h => exact go 2 r 1017 6 h (by cases h; decide +kernel)
  | 3, h => exact go 3 r 780 6 h (by cases h; decide +kernel)
  | 4, h => exact go 4 r 67 14 h (by cases h; decide +kernel)
  | 5, h => exact go 5 r 231 6 h (by cases h; decide +kernel)
  | 6, h => exact go 6 r 73 6 h (by cases h; decide +kernel)
  | 7, h => exact go 7 r 145 6 h (by cases h; decide +kernel)
  | 8, h => exact go 8 r 110 7 h (by cases h; decide +kernel)
  | 9, h => exact go 9 r 59 12 h (by cases h; decide +kernel)
  | n + 10, h => exact absurd h (by simp [vwCl])
theorem k_prim {args : Array Value} {s : State} {ty : FieldType} (h : (Cond.arrayClass ty).before args s = true) (hp : ∀ C, ty ≠ .object C) : ∃ cA : ClassId, ArrOfT s cA ty ∧ va_RA s cA ty := by
  obtain ⟨cA, kA, comp, h1, h2, h3⟩ := Cond.arrayClass_spec h
  refine ⟨cA, fun n z => ⟨fun k h => (by cases h), kA, h2, comp, h3⟩, ?_⟩
  cases ty with
  | object C => exact absurd rfl (hp C)
  | _ => exact h1
theorem k_house {args : Array Value} {s : State} (h : (Cond.arrayOver (.object "TeaHouse$House")).before args s = true) : ∃ cA : ClassId, ArrOfT s cA (.object "TeaHouse$House") ∧ va_RA s cA (.object "TeaHouse$House") := by
  obtain ⟨comp, cA, kA, h1, h2, h3, h4, h5⟩ := Cond.arrayOver_spec h
  exact ⟨cA, fun n z => ⟨fun k h => (by cases h), kA, h3, comp, h4⟩, kA, comp, h3, h4, h1, h5⟩
theorem k_arr {args : Array Value} {s : State} (hts : ∀ w ∈ lw_tbl, w.before args s = true) : ∀ t, t < 5 → ∃ cA : ClassId, ArrOfT s cA (arrTy t) ∧ va_RA s cA (arrTy t) := by
  intro t ht
  match t, ht with
  | 0, _ => exact k_prim (ty := .byte) (hts _ (List.mem_of_getElem? (i := 288) (by decide +kernel))) (fun _ h => by cases h)
  | 1, _ => exact k_prim (ty := .char) (hts _ (List.mem_of_getElem? (i := 255) (by decide +kernel))) (fun _ h => by cases h)
  | 2, _ => exact k_prim (ty := .int) (hts _ (List.mem_of_getElem? (i := 107) (by decide +kernel))) (fun _ h => by cases h)
  | 3, _ => exact k_prim (ty := .boolean) (hts _ (List.mem_of_getElem? (i := 108) (by decide +kernel))) (fun _ h => by cases h)
  | 4, _ => exact k_house (hts _ (List.mem_of_getElem? (i := 227) (by decide +kernel)))
/-- the classes, their slots, the classes of arrays -/
theorem k_all {args : Array Value} {s : State} (hts : ∀ w ∈ lw_tbl, w.before args s = true) : ∃ (dC : Nat → ClassId) (dI : Nat → Nat → Nat) (dA : Nat → ClassId), ∀ (hp : Heap) (ad : Nat → Nat), va_K (dC, dI) vwCl (tysL (s.heap.size, hp, dC, dI, dA, ad)) s := by
  have h1 : ∀ ci : Nat, ∃ q : ClassId × (Nat → Nat), ∀ r : vw_C, vwCl[ci]? = some r → u_Kn s r.1 r.2.1 r.2.2 q.1 q.2 := by
    intro ci
    cases hr : vwCl[ci]? with
    | none => exact ⟨(0, fun _ => 0), fun r h => by cases h⟩
    | some r =>
      obtain ⟨cC, iS, h⟩ := k_class hts ci r hr
      exact ⟨(cC, iS), fun r' h' => by cases h'; exact h⟩
  have h2 : ∀ t : Nat, ∃ cA : ClassId, t < 5 → ArrOfT s cA (arrTy t) ∧ va_RA s cA (arrTy t) := by
    intro t
    by_cases ht : t < 5
    · obtain ⟨cA, h⟩ := k_arr hts t ht
      exact ⟨cA, fun _ => h⟩
    · exact ⟨0, fun h => absurd h ht⟩
  refine ⟨fun ci => (h1 ci).choose.1, fun ci => (h1 ci).choose.2, fun t => (h2 t).choose, fun hp ad => ⟨fun ci r hr => (h1 ci).choose_spec r hr, fun k q hq => ?_⟩⟩
  match k, hq with
  | 0, hq => cases hq; exact (h2 0).choose_spec (by decide)
  | 1, hq => cases hq; exact (h2 1).choose_spec (by decide)
  | 2, hq => cases hq; exact (h2 2).choose_spec (by decide)
  | 3, hq => cases hq; exact (h2 3).choose_spec (by decide)
  | 4, hq => cases hq; exact (h2 4).choose_spec (by decide)
  | n + 5, hq => exact absurd hq (by simp [tysL])
