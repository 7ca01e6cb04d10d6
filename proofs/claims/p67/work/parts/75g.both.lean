/-! ===== the class, its refusals ===== -/
theorem LN.same {I I' : IT} {l : List Nat} (h : LN I l) (e : I' 60 = I 60) (e2 : I' 61 = I 61) : LN I' l := by unfold LN; rw [e, e2]; exact h
theorem KCR.same {I I' : IT} {T : TS} (h : KCR I T) (e : ∀ q, q < 190 → I' q = I q) : KCR I' T := by
  obtain ⟨a1, ⟨n, n1, n2, n3, n4⟩, a3, a4, a5, a6, a7, a8⟩ := h
  refine ⟨a1.same fun q x y => e q (by omega), ⟨n, n1, by rw [e 0 (by omega)]; exact n2, by rw [e 0 (by omega)]; exact n3, fun i hi => (n4 i hi).same fun q x y => e q (by omega)⟩, ?_, by rw [e 0 (by omega)]; exact a4, by rw [e 0 (by omega)]; exact a5, a6.same (e 60 (by omega)) (e 61 (by omega)), by rw [e 56 (by omega), e 57 (by omega)]; exact a7, fun a ha => by rw [e (a + 15) (by omega)]; exact a8 a ha⟩
  cases c : T.sv with
  | none => rw [c] at a3; show I' 0 7 = nI 0; rw [e 0 (by omega)]; exact a3
  | some S =>
    rw [c] at a3
    exact ⟨by rw [e 0 (by omega)]; exact a3.1, a3.2.same fun q x y => e q (by omega)⟩
theorem WT.mono {t t' : Nat} {T : TS} (h : WT t T) (ht : t ≤ t') : WT t' T := by
  obtain ⟨h1, h2, h3, h4, h5⟩ := h
  exact ⟨⟨h1.1, h1.2.mono ht⟩, h2, fun i hi => ⟨(h3 i hi).1, (h3 i hi).2.mono ht⟩, fun S hS => ⟨(h4 S hS).1, (h4 S hS).2.mono ht⟩, h5⟩
theorem WT.push {t : Nat} {T : TS} (h : WT t T) {H : HS} (w : HW H) (hT : HT (t + 1) H) : WT (t + 1) (T.push H) := by
  have h' := h.mono (Nat.le_succ t)
  obtain ⟨h1, h2, h3, h4, h5⟩ := h'
  refine ⟨⟨w, hT⟩, Nat.min_le_left _ _, fun i hi => ?_, h4, h5⟩
  have hi : i < min 8 (T.pc + 1) := hi
  show HW (if i = 0 then T.h else T.p (i - 1)) ∧ HT (t + 1) (if i = 0 then T.h else T.p (i - 1))
  by_cases e : i = 0
  · rw [if_pos e]; exact h1
  · rw [if_neg e]; exact h3 (i - 1) (by omega)
theorem x_toNat (x : Int32) : x.toInt.toNat = ix x := rfl
def excN (r : Nat) : String := if r = 1 then "java/lang/IndexOutOfBoundsException" else if r = 2 then "java/lang/IllegalArgumentException" else if r = 3 then "java/lang/IllegalStateException" else "java/util/NoSuchElementException"
theorem exc1 : excN 1 = "java/lang/IndexOutOfBoundsException" := rfl
theorem exc2 : excN 2 = "java/lang/IllegalArgumentException" := rfl
theorem exc3 : excN 3 = "java/lang/IllegalStateException" := rfl
theorem exc4 : excN 4 = "java/util/NoSuchElementException" := rfl
theorem unl_v (p q : Prop) [Decidable p] [Decidable q] : unlN p q = 0 ∨ unlN p q = 2 ∨ unlN p q = 3 := by
  unfold unlN
  by_cases a : p
  · rw [if_neg (fun z => z a)]
    by_cases b : q
    · rw [if_neg (fun z => z b)]; exact Or.inl rfl
    · rw [if_pos b]; exact Or.inr (Or.inr rfl)
  · rw [if_pos a]; exact Or.inr (Or.inl rfl)
theorem lg_self (x : Int64) : lg_cmp x x = 0 := by unfold lg_cmp; simp
/-! ===== the law's cases: the changes that answer with an int ===== -/
theorem unl_T (p : Prop) [Decidable p] : unlN p True = 0 ∨ unlN p True = 2 := by
  by_cases a : p
  · rw [unl_t a, if_neg (fun z => z trivial)]; exact Or.inl rfl
  · rw [unl_f a]; exact Or.inr rfl
theorem unl_S (q : Prop) [Decidable q] : unlN True q = 0 ∨ unlN True q = 3 := by
  rw [unl_t trivial]
  by_cases a : q
  · rw [if_neg (fun z => z a)]; exact Or.inl rfl
  · rw [if_pos a]; exact Or.inr rfl
section R
variable (H : HS) (x y z u : Int)
theorem ref0 : refN 0 H x y z u = 0 ∨ refN 0 H x y z u = 2 ∨ refN 0 H x y z u = 3 := unl_v _ _
theorem ref1 : refN 1 H x y z u = 0 ∨ refN 1 H x y z u = 1 ∨ refN 1 H x y z u = 2 ∨ refN 1 H x y z u = 3 := by
  have e : refN 1 H x y z u = if 0 ≤ x ∧ x < kc H.k then unlN (1 ≤ y ∧ y ≤ 16) (kvol H.k x.toNat + 2 * y ≤ kcap H.k x.toNat) else 1 := rfl
  by_cases a : 0 ≤ x ∧ x < kc H.k
  · rw [e, if_pos a]; have := unl_v (1 ≤ y ∧ y ≤ 16) (kvol H.k x.toNat + 2 * y ≤ kcap H.k x.toNat); omega
  · rw [e, if_neg a]; exact Or.inr (Or.inl rfl)
theorem ref2 : refN 2 H x y z u = 0 ∨ refN 2 H x y z u = 1 ∨ refN 2 H x y z u = 2 := by
  have e : refN 2 H x y z u = if 0 ≤ x ∧ x < kc H.k then unlN (0 ≤ y ∧ y ≤ 5) True else 1 := rfl
  by_cases a : 0 ≤ x ∧ x < kc H.k
  · rw [e, if_pos a]; have := unl_T (0 ≤ y ∧ y ≤ 5); omega
  · rw [e, if_neg a]; exact Or.inr (Or.inl rfl)
theorem ref3 : refN 3 H x y z u = 0 ∨ refN 3 H x y z u = 2 ∨ refN 3 H x y z u = 3 := unl_v _ _
theorem ref4 : refN 4 H x y z u = 0 ∨ refN 4 H x y z u = 4 := by
  have e : refN 4 H x y z u = if findO H.o x = none then 4 else 0 := rfl
  by_cases a : findO H.o x = none
  · rw [e, if_pos a]; exact Or.inr rfl
  · rw [e, if_neg a]; exact Or.inl rfl
theorem ref5 : refN 5 H x y z u = 0 ∨ refN 5 H x y z u = 3 := unl_S _
theorem ref6 : refN 6 H x y z u = 0 ∨ refN 6 H x y z u = 2 ∨ refN 6 H x y z u = 3 := unl_v _ _
theorem ref7 : refN 7 H x y z u = 0 ∨ refN 7 H x y z u = 2 ∨ refN 7 H x y z u = 3 := unl_v _ _
theorem ref8 : refN 8 H x y z u = 0 ∨ refN 8 H x y z u = 2 := unl_T _
theorem ref9 : refN 9 H x y z u = 0 ∨ refN 9 H x y z u = 2 := unl_T _
theorem ref10 : refN 10 H x y z u = 0 ∨ refN 10 H x y z u = 2 := unl_T _
theorem ref11 : refN 11 H x y z u = 0 := rfl
theorem ref12 : refN 12 H x y z u = 0 ∨ refN 12 H x y z u = 3 := unl_S _
end R
