/-! ===== both sides at once ===== -/
def ST (I : IT) (T : TS) (t : Nat) : Prop := WT t T ∧ KCR I T ∧ MR I T
theorem MR.same {I I' : IT} {T : TS} (h : MR I T) (e : Cd I I') : MR I' T := by
  have e0 := e 190 (by omega)
  have e1 := e 191 (by omega)
  have e2 := e 192 (by omega)
  have e3 := e 193 (by omega)
  have er : row I' = row I := by unfold row; rw [e1]
  unfold MR
  rw [e0, e1, e2, e3, er]
  exact h
theorem LN.same {I I' : IT} {l : List Nat} (h : LN I l) (e : I' 60 = I 60) (e2 : I' 61 = I 61) : LN I' l := by unfold LN; rw [e, e2]; exact h
theorem KCR.same {I I' : IT} {T : TS} (h : KCR I T) (e : ∀ q, q < 190 → I' q = I q) : KCR I' T := by
  obtain ⟨a1, ⟨n, n1, n2, n3, n4⟩, a3, a4, a5, a6, a7, a8⟩ := h
  refine ⟨a1.same fun q x y => e q (by omega), ⟨n, n1, by rw [e 0 (by omega)]; exact n2, by rw [e 0 (by omega)]; exact n3, fun i hi => (n4 i hi).same fun q x y => e q (by omega)⟩, ?_, by rw [e 0 (by omega)]; exact a4, by rw [e 0 (by omega)]; exact a5, a6.same (e 60 (by omega)) (e 61 (by omega)), by rw [e 56 (by omega), e 57 (by omega)]; exact a7, fun a ha => by rw [e (a + 15) (by omega)]; exact a8 a ha⟩
  cases c : T.sv with
  | none => rw [c] at a3; show I' 0 7 = nI 0; rw [e 0 (by omega)]; exact a3
  | some S =>
    rw [c] at a3
    exact ⟨by rw [e 0 (by omega)]; exact a3.1, a3.2.same fun q x y => e q (by omega)⟩
theorem WT.mono {t t' : Nat} {T : TS} (h : WT t T) (ht : t ≤ t') : WT t' T := by
  obtain ⟨h1, h2, h3, h4, h5⟩ := h
  exact ⟨⟨h1.1, h1.2.mono ht⟩, h2, fun i hi => ⟨(h3 i hi).1, (h3 i hi).2.mono ht⟩, fun S hS => ⟨(h4 S hS).1, (h4 S hS).2.mono ht⟩, h5⟩
theorem WT.push {t : Nat} {T : TS} (h : WT t T) {H : HS} (w : HW H) (hT : HT (t + 1) H) : WT (t + 1) (T.push H) := by
  have h' := h.mono (Nat.le_succ t)
  obtain ⟨h1, h2, h3, h4, h5⟩ := h'
  refine ⟨⟨w, hT⟩, Nat.min_le_left _ _, fun i hi => ?_, h4, h5⟩
  have hi : i < min 8 (T.pc + 1) := hi
  show HW (if i = 0 then T.h else T.p (i - 1)) ∧ HT (t + 1) (if i = 0 then T.h else T.p (i - 1))
  by_cases e : i = 0
  · rw [if_pos e]; exact h1
  · rw [if_neg e]; exact h3 (i - 1) (by omega)
theorem ST.ext {I I' : IT} {T : TS} {t : Nat} (h : ST I T t) (e : ∀ q, I' q = I q) : ST I' T t := ⟨h.1, h.2.1.same fun q _ => e q, h.2.2.same fun q _ => e q⟩
theorem x_toNat (x : Int32) : x.toInt.toNat = ix x := rfl
def excN (r : Nat) : String := if r = 1 then "java/lang/IndexOutOfBoundsException" else if r = 2 then "java/lang/IllegalArgumentException" else if r = 3 then "java/lang/IllegalStateException" else "java/util/NoSuchElementException"
theorem exc1 : excN 1 = "java/lang/IndexOutOfBoundsException" := rfl
theorem exc2 : excN 2 = "java/lang/IllegalArgumentException" := rfl
theorem exc3 : excN 3 = "java/lang/IllegalStateException" := rfl
theorem exc4 : excN 4 = "java/util/NoSuchElementException" := rfl
theorem unl_v (p q : Prop) [Decidable p] [Decidable q] : unlN p q = 0 ∨ unlN p q = 2 ∨ unlN p q = 3 := by
  unfold unlN
  by_cases a : p
  · rw [if_neg (fun z => z a)]
    by_cases b : q
    · rw [if_neg (fun z => z b)]; exact Or.inl rfl
    · rw [if_pos b]; exact Or.inr (Or.inr rfl)
  · rw [if_pos a]; exact Or.inr (Or.inl rfl)
theorem lg_self (x : Int64) : lg_cmp x x = 0 := by unfold lg_cmp; simp
section B
variable {I : IT}
theorem j_change {V : IT → (Int32 → IT → Prop) → Prop} {A : Int32 → IT → Prop} {B : String → IT → Prop} {T : TS} {t v : Nat} (hv : v < 13) (x y z u : Int32) (h : ST I T t) (ht : t ≤ 8000) (hx : v = 11 → 0 ≤ x.toInt) (hV : ∀ I1 K1, HM (I1 191) T.h → MK I1 T.h v x y z u K1 → V I1 K1) (a b c d : Nat) (hc : ∀ r, refN v T.h x.toInt y.toInt z.toInt u.toInt = r → r ≠ 0 → codeN a b c d r ≠ 0 ∧ codeN a b c d r < 100)
    (hA : refN v T.h x.toInt y.toInt z.toInt u.toInt = 0 → ∀ I2, (∀ Km : Int32 → IT → Prop, (∀ I6, ST I6 (T.push (nxtN v T.h (ix x) (ix y) (ix z) (ix u))) (t + 1) → I6 190 0 = nI 0 → Km (nI (resN v T.h (ix x) (ix y) (ix z) (ix u))) I6) → f_X9_begins I2 (fun I1 => V I1 (fun x2 I3 => f_X9_ends x2 (nI a) (nI b) (nI c) (nI d) I3 Km))) → A (nI (resN v T.h (ix x) (ix y) (ix z) (ix u))) I2)
    (hB : ∀ r, refN v T.h x.toInt y.toInt z.toInt u.toInt = r → r ≠ 0 → (∀ Km : Int32 → IT → Prop, (∀ I6, ST I6 T t → I6 190 0 = nI (codeN a b c d r) → Km (nI 0) I6) → f_X9_begins I (fun I1 => V I1 (fun x2 I3 => f_X9_ends x2 (nI a) (nI b) (nI c) (nI d) I3 Km))) → B (excN r) I) :
    f_X8_change (1000000 + v) x y z u I A B := by
  obtain ⟨w, hC, hM⟩ := h
  refine s_change hv x y z u w ht hC hx (fun e I' c' d' hw => hA e I' fun Km hk => ?_) (fun r e hr => hB r e hr fun Km hk => ?_)
  · refine m_change w (hM.same d') hV (fun _ => hw) hc (fun _ I6 m6 d6 e6 => hk I6 ⟨w.push hw ?_, c'.same fun q hq => d6.1 q (by omega) (by omega), m6⟩ e6) (fun e2 => absurd e e2)
    exact HT.next w.1.2 w.1.1.1 w.1.1.2.1 hv e hx
  · refine m_change w hM hV (fun e2 => absurd (e.symm.trans e2) hr) hc (fun e2 => absurd (e.symm.trans e2) hr) (fun _ I6 m6 d6 e6 => hk I6 ⟨w, hC.same fun q hq => d6.1 q (by omega) (by omega), m6⟩ ?_)
    rw [e] at e6; exact e6
end B
