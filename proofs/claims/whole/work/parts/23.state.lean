/-! ===== the state of both sides ===== -/
/-- now; how many can be undone, the latest first; the saved one; malformed at, failed at; the text, the line -/
abbrev TS : Type := HS × Nat × (Nat → HS) × Option HS × Option Nat × Option Nat × List Nat × List Nat
abbrev TS.h (T : TS) : HS := T.1
abbrev TS.pc (T : TS) : Nat := T.2.1
abbrev TS.p (T : TS) : Nat → HS := T.2.2.1
abbrev TS.sv (T : TS) : Option HS := T.2.2.2.1
abbrev TS.ma (T : TS) : Option Nat := T.2.2.2.2.1
abbrev TS.fa (T : TS) : Option Nat := T.2.2.2.2.2.1
abbrev TS.tx (T : TS) : List Nat := T.2.2.2.2.2.2.1
abbrev TS.ln (T : TS) : List Nat := T.2.2.2.2.2.2.2
def WT (t : Nat) (T : TS) : Prop := (HW T.h ∧ HT t T.h) ∧ T.pc ≤ 8 ∧ (∀ i, i < T.pc → HW (T.p i) ∧ HT t (T.p i)) ∧ (∀ S, T.sv = some S → HW S ∧ HT t S) ∧ (∀ m, T.ma = some m → m < 100) ∧ (∀ m, T.fa = some m → m < 100) ∧ T.tx.length ≤ 60 ∧ (∀ c, c ∈ T.tx → 32 ≤ c ∧ c ≤ 126) ∧ T.ln.length ≤ 150 ∧ ∀ c, c ∈ T.ln → c < 128
def TS.push (T : TS) (H : HS) : TS := ⟨H, min 8 (T.pc + 1), fun i => if i = 0 then T.h else T.p (i - 1), T.sv, T.ma, T.fa, T.tx, T.ln⟩
def row (I : IT) (r : Nat) : Nat → Int32 := fun j => I 191 (103 * r + j)
theorem HM.ext {r r' : Nat → Int32} {H : HS} (h : HM r H) (w : HW H) (e : ∀ j, j < 103 → r' j = r j) : HM r' H :=
  ⟨h.1.same w.1 (e 1 (by omega)) (fun j a b => e j (by omega)), h.2.1.same w.2.1 (e 2 (by omega)) (e 3 (by omega)) (fun j a b => e j (by omega)), h.2.2.1.same w.2.2 (e 12 (by omega)) (fun j a b => e j (by omega)) (e 13 (by omega)), h.2.2.2.same (fun j a b => e j (by omega)) (fun j a b => e j (by omega))⟩
/-- the reference's side -/
def MR (I : IT) (T : TS) : Prop :=
  HM (I 191) T.h ∧ I 190 2 = nI T.pc ∧ (∀ i, i < T.pc → HM (row I (T.pc - i)) (T.p i)) ∧
  (match T.sv with | none => I 190 3 = nI 0 | some S => I 190 3 = nI 1 ∧ HM (row I 9) S) ∧
  I 190 11 = optI T.ma ∧ I 190 12 = optI T.fa ∧
  (I 190 6 = nI T.ln.length ∧ ∀ j, j < T.ln.length → I 192 j = nI (T.ln.getD j 0)) ∧
  (I 190 8 = nI T.tx.length ∧ ∀ j, j < T.tx.length → I 193 j = nI (T.tx.getD j 0))
/-- what a change of the reference leaves: all but its rows and its own fields 0, 2, 4 -/
def Md2 (I I' : IT) : Prop := (∀ q, q ≠ 190 → q ≠ 191 → I' q = I q) ∧ ∀ j, j ≠ 0 → j ≠ 2 → j ≠ 4 → I' 190 j = I 190 j
theorem Md2.rf {I : IT} : Md2 I I := ⟨fun _ _ _ => rfl, fun _ _ _ _ => rfl⟩
theorem Md2.tr {I I' I2 : IT} (h : Md2 I I') (h' : Md2 I' I2) : Md2 I I2 := ⟨fun q a b => (h'.1 q a b).trans (h.1 q a b), fun j a b c => (h'.2 j a b c).trans (h.2 j a b c)⟩
theorem MR.of {I I' : IT} {T T' : TS} (h : MR I T) (m : Md2 I I') (h1 : HM (I' 191) T'.h) (h2 : I' 190 2 = nI T'.pc) (h3 : ∀ i, i < T'.pc → HM (row I' (T'.pc - i)) (T'.p i)) (h9 : ∀ S, T.sv = some S → HM (row I 9) S → HM (row I' 9) S) (e1 : T'.sv = T.sv) (e2 : T'.ma = T.ma) (e3 : T'.fa = T.fa) (e4 : T'.tx = T.tx) (e5 : T'.ln = T.ln) : MR I' T' := by
  obtain ⟨a1, a2, a3, a4, a5, a6, a7, a8⟩ := h
  refine ⟨h1, h2, h3, ?_, ?_, ?_, ?_, ?_⟩
  · rw [e1]
    cases c : T.sv with
    | none => rw [c] at a4; show I' 190 3 = nI 0; rw [m.2 3 (by decide) (by decide) (by decide)]; exact a4
    | some S =>
      rw [c] at a4
      exact ⟨by rw [m.2 3 (by decide) (by decide) (by decide)]; exact a4.1, h9 S c a4.2⟩
  · rw [e2, m.2 11 (by decide) (by decide) (by decide)]; exact a5
  · rw [e3, m.2 12 (by decide) (by decide) (by decide)]; exact a6
  · rw [e5, m.2 6 (by decide) (by decide) (by decide), m.1 192 (by decide) (by decide)]; exact a7
  · rw [e4, m.2 8 (by decide) (by decide) (by decide), m.1 193 (by decide) (by decide)]; exact a8
def codeN (a b c d r : Nat) : Nat := if r = 1 then a else if r = 2 then b else if r = 3 then c else if r = 4 then d else 0
section M
variable {I : IT}
/-- begins: row 0 aside, in row 10 -/
theorem m_begins {K : IT → Prop} (h : ∀ I', (∀ q, q ≠ 191 → I' q = I q) → (∀ j, j < 103 → I' 191 (1030 + j) = I 191 j) → (∀ q, (q < 1030 ∨ 1133 ≤ q) → I' 191 q = I 191 q) → K I') : f_X9_begins I K := by
  unfold f_X9_begins
  refine m_copies (by decide) (by decide) (by decide) fun I' a1 a2 a3 => h I' a1 (fun j hj => ?_) (fun q hq => a3 q (by omega))
  have := a2 j hj
  rw [show 103 * 0 + j = j by omega] at this
  exact this
/-- ends, where nothing was thrown: row 10 goes to the rows of the changes -/
theorem m_endsOk {K : Int32 → IT → Prop} {T : TS} {H' : HS} {t : Nat} (w : WT t T) (w' : HW H') {I1 : IT} (hM : MR I T) (h0 : HM (I1 191) H') (h10 : ∀ j, j < 103 → I1 191 (1030 + j) = I 191 j) (hr : ∀ q, 103 ≤ q → (q < 1030 ∨ 1133 ≤ q) → I1 191 q = I 191 q) (hm : Md2 I I1) (h2 : I1 190 2 = I 190 2) (a b c d : Int32) (k : ∀ I', MR I' (T.push H') → Md2 I I' → I' 190 0 = nI 0 → I' 190 4 = I1 190 4 → K (I' 190 4) I') : f_X9_ends (nI 0) a b c d I1 K := by
  have hpc := w.2.1
  have hI2 := hM.2.1
  -- the last part: changes is pc' - 1, row 10 goes to row pc'
  have fin : ∀ (J : IT) (n : Nat), n < 8 → n = min 7 T.pc → (∀ q, q ≠ 190 → q ≠ 191 → J q = I1 q) → J 190 0 = nI 0 → J 190 2 = nI n → (∀ j, j ≠ 0 → j ≠ 2 → J 190 j = I1 190 j) → (∀ q, q < 103 ∨ 927 ≤ q → J 191 q = I1 191 q) → (∀ i, i < n → HM (row J (n - i)) (T.p i)) → f_X9_ends_b104 (nI 0) a b c d K J := by
    intro J n hn hn2 c1 c2 c3 c4 c5 c6
    unfold f_X9_ends_b104
    rw [wr_p, c3, nI_add, up2_same]
    refine m_copies (a := 10) (b := n + 1) (by decide) (by omega) (by omega) fun I' d1 d2 d3 => ?_
    have d1' : I' 190 = (up2 J 190 2 (nI (n + 1))) 190 := d1 190 (by decide)
    have e191 : ∀ q, (up2 J 190 2 (nI (n + 1))) 191 q = J 191 q := fun q => up2_nea (by decide)
    have hmd : Md2 I1 I' := ⟨fun q x y => by rw [d1 q y, up2_ne x]; exact c1 q x y, fun j x y z => by rw [d1', up2_nej y]; exact c4 j x y⟩
    refine k I' ?_ (hm.tr hmd) (by rw [d1', up2_nej (by decide)]; exact c2) (by rw [d1', up2_nej (by decide)]; exact c4 4 (by decide) (by decide))
    refine hM.of (hm.tr hmd) ?_ ?_ (fun i hi => ?_) (fun S hS h9 => ?_) rfl rfl rfl rfl rfl
    · refine h0.ext w' fun j hj => ?_
      rw [d3 j (by omega), e191]; exact c5 j (by omega)
    · show I' 190 2 = nI (min 8 (T.pc + 1))
      rw [d1', up2_same]; congr 1; omega
    · have hi : i < min 8 (T.pc + 1) := hi
      show HM (row I' (min 8 (T.pc + 1) - i)) (if i = 0 then T.h else T.p (i - 1))
      by_cases e : i = 0
      · rw [if_pos e]
        refine hM.1.ext w.1.1 fun j hj => ?_
        unfold row
        rw [show min 8 (T.pc + 1) - i = n + 1 by omega, d2 j hj, e191, c5 _ (by omega)]
        exact h10 j hj
      · rw [if_neg e]
        refine (c6 (i - 1) (by omega)).ext (w.2.2.1 (i - 1) (by omega)).1 fun j hj => ?_
        unfold row
        rw [show min 8 (T.pc + 1) - i = n - (i - 1) by omega, d3 _ (by omega), e191]
    · refine h9.ext (w.2.2.2.1 S hS).1 fun j hj => ?_
      unfold row
      rw [d3 _ (by omega), e191, c5 _ (by omega), hr _ (by omega) (by omega)]
  -- rows as they stood
  have hrow : ∀ i, i < T.pc → HM (row I1 (T.pc - i)) (T.p i) := fun i hi => by
    refine (hM.2.2.1 i hi).ext (w.2.2.1 i hi).1 fun j hj => ?_
    unfold row
    exact hr _ (by omega) (by omega)
  unfold f_X9_ends
  rw [if_neg (by decide), if_neg (by decide), if_neg (by decide), if_neg (by decide)]
  unfold f_X9_ends_b40
  rw [wr_p, up2_same, if_pos (by decide), up2_nej (by decide), h2, hI2]
  have hz := n_eqP (a := T.pc) (b := 8) (by omega) (by omega)
  simp only [hz]
  split
  · next q =>
    have loop : ∀ f j J, 1 ≤ j → j ≤ 8 → 8 - j < f → (∀ q, q ≠ 190 → q ≠ 191 → J q = I1 q) → J 190 0 = nI 0 → J 190 2 = nI 8 → (∀ j, j ≠ 0 → j ≠ 2 → J 190 j = I1 190 j) → (∀ q, q < 103 ∨ 103 * j ≤ q → J 191 q = I1 191 q) → (∀ q, 103 ≤ q → q < 103 * j → J 191 q = I1 191 (q + 103)) → f_X9_ends_b71 (nI 0) a b c d (fun I0_ => f_X9_ends_b104 (nI 0) a b c d K I0_) K f (nI j) J := by
      intro f
      induction f with
      | zero => intro j _ _ _ hn; omega
      | succ f ih =>
        intro j J hj1 hj hf c1 c2 c3 c4 c5 c6
        rw [f_X9_ends_b71]
        simp (disch := omega) only [n_leP]
        by_cases e : j = 8
        · rw [if_pos (by omega), wr_p, c3, n_sub (by omega)]
          subst e
          refine fin _ 7 (by omega) (by omega) (fun q x y => by rw [up2_ne x]; exact c1 q x y) (by rw [up2_nej (by decide)]; exact c2) up2_same (fun j x y => by rw [up2_nej y]; exact c4 j x y) (fun q x => by rw [up2_nea (by decide)]; exact c5 q (by omega)) (fun i hi => ?_)
          refine (hrow i (by omega)).ext (w.2.2.1 i (by omega)).1 fun j hj => ?_
          unfold row
          rw [up2_nea (by decide), c6 _ (by omega) (by omega)]
          congr 1; omega
        · rw [if_neg (by omega), nI_add]
          refine m_copies (by omega) (by omega) (by omega) fun I' d1 d2 d3 => ?_
          rw [bnd_p]
          have d1' : I' 190 = J 190 := d1 190 (by decide)
          refine ih (j + 1) I' (by omega) (by omega) (by omega) (fun q x y => by rw [d1 q y]; exact c1 q x y) (by rw [d1']; exact c2) (by rw [d1']; exact c3) (fun j x y => by rw [d1']; exact c4 j x y) (fun q hq => by rw [d3 q (by omega)]; exact c5 q (by omega)) (fun q x y => ?_)
          by_cases e2 : q < 103 * j
          · rw [d3 q (by omega)]; exact c6 q x e2
          · have := d2 (q - 103 * j) (by omega)
            rw [show 103 * j + (q - 103 * j) = q by omega, show 103 * (j + 1) + (q - 103 * j) = q + 103 by omega] at this
            rw [this]; exact c5 _ (by omega)
    exact loop 4096 1 _ (by omega) (by omega) (by omega) (fun q x y => up2_ne x) up2_same (by rw [up2_nej (by decide), h2, hI2, q]) (fun j x y => up2_nej x) (fun q x => up2_nea (by decide)) (fun q x y => by omega)
  · next q =>
    refine fin _ T.pc (by omega) (by omega) (fun q x y => up2_ne x) up2_same (by rw [up2_nej (by decide), h2, hI2]) (fun j x y => up2_nej x) (fun q x => up2_nea (by decide)) (fun i hi => ?_)
    refine (hrow i hi).ext (w.2.2.1 i hi).1 fun j hj => ?_
    unfold row
    exact up2_nea (by decide)
end M
