/-! ===== the state of the class ===== -/
def HW (H : HS) : Prop := KW H.k ∧ OW H.o ∧ LW H.l
theorem HR.w {I : IT} {a : Nat} {H : HS} (h : HR I a H) : HW H := ⟨h.1.1, h.2.1.1, h.2.2.1.1⟩
/-! ===== the state of both sides ===== -/
/-- now; how many can be undone, the latest first; the saved one; malformed at, failed at; the text, the line -/
abbrev TS : Type := HS × Nat × (Nat → HS) × Option HS × Option Nat × Option Nat × List Nat × List Nat
abbrev TS.h (T : TS) : HS := T.1
abbrev TS.pc (T : TS) : Nat := T.2.1
abbrev TS.p (T : TS) : Nat → HS := T.2.2.1
abbrev TS.sv (T : TS) : Option HS := T.2.2.2.1
abbrev TS.ma (T : TS) : Option Nat := T.2.2.2.2.1
abbrev TS.fa (T : TS) : Option Nat := T.2.2.2.2.2.1
abbrev TS.tx (T : TS) : List Nat := T.2.2.2.2.2.2.1
abbrev TS.ln (T : TS) : List Nat := T.2.2.2.2.2.2.2
def WT (t : Nat) (T : TS) : Prop := (HW T.h ∧ HT t T.h) ∧ T.pc ≤ 8 ∧ (∀ i, i < T.pc → HW (T.p i) ∧ HT t (T.p i)) ∧ (∀ S, T.sv = some S → HW S ∧ HT t S) ∧ (∀ m, T.ma = some m → m < 100) ∧ (∀ m, T.fa = some m → m < 100) ∧ T.tx.length ≤ 60 ∧ (∀ c, c ∈ T.tx → 32 ≤ c ∧ c ≤ 126) ∧ T.ln.length ≤ 150 ∧ ∀ c, c ∈ T.ln → c < 128
def TS.push (T : TS) (H : HS) : TS := ⟨H, min 8 (T.pc + 1), fun i => if i = 0 then T.h else T.p (i - 1), T.sv, T.ma, T.fa, T.tx, T.ln⟩
theorem unl_le (p q : Prop) [Decidable p] [Decidable q] : unlN p q ≤ 3 := by unfold unlN; split <;> (try split) <;> omega
theorem ref_le (v : Nat) (H : HS) (x y z u : Int) : refN v H x y z u ≤ 4 := by
  have one : ∀ (c : Prop) [Decidable c] (a b : Nat), a ≤ 4 → b ≤ 4 → (if c then a else b) ≤ 4 := fun c _ a b ha hb => by
    by_cases q : c
    · rw [if_pos q]; exact ha
    · rw [if_neg q]; exact hb
  have un : ∀ (p q : Prop) [Decidable p] [Decidable q], unlN p q ≤ 4 := fun p q _ _ => Nat.le_trans (unl_le p q) (by decide)
  unfold refN
  repeat' (first | exact un _ _ | exact Nat.zero_le _ | decide | refine one _ _ _ ?_ ?_)
/-! ===== the class's side ===== -/
def KCR (I : IT) (T : TS) : Prop :=
  HR I 1 T.h ∧
  (∃ n, n < 8 ∧ I 0 9 = nI n ∧ I 0 8 = nI T.pc ∧ ∀ i, i < T.pc → HR I (62 + 16 * ((n + 7 - i) % 8)) (T.p i)) ∧
  (match T.sv with | none => I 0 7 = nI 0 | some S => I 0 7 = nI 1 ∧ HR I 33 S) ∧
  I 0 10 = optI T.ma ∧ I 0 11 = optI T.fa ∧ LN I T.ln ∧
  (I 56 3 = nI T.tx.length ∧ ∀ j, j < T.tx.length → I 57 j = nI (T.tx.getD j 0)) ∧
  ∀ a, (a = 1 ∨ a = 17 ∨ a = 33 ∨ ∃ k, k < 8 ∧ a = 62 + 16 * k) → I (a + 15) 0 = nI 0
/-- what a method of the class leaves alone -/
def Cd (I I' : IT) : Prop := ∀ q, 190 ≤ q → I' q = I q
section C
variable {I : IT}
theorem s_copyH {K : IT → Prop} {a b : Nat} {H : HS} (hR : HR I b H) (hs : H.s 10 ≤ 1) (hd : a + 16 ≤ b ∨ b + 16 ≤ a) (hz : I (a + 15) 0 = nI 0) (h : ∀ I', HR I' a H → Same I I' a 16 → I' (a + 15) 0 = nI 0 → K I') : f_X1_copyFrom a b I K := by
  unfold f_X1_copyFrom
  refine s_copyK hR.1 (by omega) fun I1 k1 m1 => ?_
  refine s_copyO (S := H.o) (hR.2.1.same fun q x y => m1 q (by omega)) (by omega) fun I2 o2 m2 => ?_
  refine s_copyL (S := H.l) ((hR.2.2.1.same fun q x y => m1 q (by omega)).same fun q x y => m2 q (by omega)) (by omega) ?_ fun I3 l3 m3 z3 => ?_
  · rw [m2 _ (by omega), m1 _ (by omega)]; exact hz
  · have m0 : Same I I3 a 16 := (m1.wd.then m2.wd).then m3.wd
    have hb : I3 b = I b := m0 b (by omega)
    have hba : b ≠ a := by omega
    have b3 := hR.sc 3
    have b4 := hR.sc 4
    have b5 := hR.sc 5
    have b6 := hR.sc 6
    have b7 := hR.sc 7
    have b8 := hR.sc 8
    have b9 := hR.sc 9
    have b10 := hR.sc 10
    have b11 := hR.sc 11
    have b12 := hR.sc 12
    have b13 := hR.sc 13
    simp (disch := assumption) only [wr_p, up2_nea, hb, b3, b4, b5, b6, b7, b8, b9, b10, b11, b12, b13]
    refine ⟨isZ_n hs, h _ ⟨?_, ?_, ?_, fun f h1 h2 => ?_⟩ ?_ ?_⟩
    · refine k1.same fun q x y => ?_
      rw [up2_ne (by omega), up2_ne (by omega), up2_ne (by omega), up2_ne (by omega), up2_ne (by omega), up2_ne (by omega), up2_ne (by omega), up2_ne (by omega), up2_ne (by omega), up2_ne (by omega), up2_ne (by omega), m3 q (by omega), m2 q (by omega)]
    · refine o2.same fun q x y => ?_
      rw [up2_ne (by omega), up2_ne (by omega), up2_ne (by omega), up2_ne (by omega), up2_ne (by omega), up2_ne (by omega), up2_ne (by omega), up2_ne (by omega), up2_ne (by omega), up2_ne (by omega), up2_ne (by omega), m3 q (by omega)]
    · refine l3.same fun q x y => ?_
      rw [up2_ne (by omega), up2_ne (by omega), up2_ne (by omega), up2_ne (by omega), up2_ne (by omega), up2_ne (by omega), up2_ne (by omega), up2_ne (by omega), up2_ne (by omega), up2_ne (by omega), up2_ne (by omega)]
    · rcases (show f = 3 ∨ f = 4 ∨ f = 5 ∨ f = 6 ∨ f = 7 ∨ f = 8 ∨ f = 9 ∨ f = 10 ∨ f = 11 ∨ f = 12 ∨ f = 13 by omega) with rfl | rfl | rfl | rfl | rfl | rfl | rfl | rfl | rfl | rfl | rfl <;> simp (disch := decide) only [up2_nej, up2_same]
    · repeat (first | exact m0 | refine Same.up ?_ (by omega) (by omega))
    · simp (disch := omega) only [up2_nea]
      exact z3
/-- the state of the class, but for the house of now and the ring -/
theorem KCR.of {I' : IT} {T T' : TS} (h : KCR I T) (h1 : HR I' 1 T'.h) (h2 : ∃ n, n < 8 ∧ I' 0 9 = nI n ∧ I' 0 8 = nI T'.pc ∧ ∀ i, i < T'.pc → HR I' (62 + 16 * ((n + 7 - i) % 8)) (T'.p i)) (e : ∀ q, 33 ≤ q → q < 49 ∨ (56 ≤ q ∧ q < 62) → I' q = I q) (e0 : ∀ j, j = 7 ∨ j = 10 ∨ j = 11 → I' 0 j = I 0 j) (hz : ∀ a, (a = 1 ∨ a = 17 ∨ a = 33 ∨ ∃ k, k < 8 ∧ a = 62 + 16 * k) → I' (a + 15) 0 = nI 0) (e1 : T'.sv = T.sv) (e2 : T'.ma = T.ma) (e3 : T'.fa = T.fa) (e4 : T'.tx = T.tx) (e5 : T'.ln = T.ln) : KCR I' T' := by
  obtain ⟨a1, a2, a3, a4, a5, a6, a7, a8⟩ := h
  refine ⟨h1, h2, ?_, ?_, ?_, ?_, ?_, hz⟩
  · rw [e1]
    cases c : T.sv with
    | none => rw [c] at a3; show I' 0 7 = nI 0; rw [e0 7 (by omega)]; exact a3
    | some S =>
      rw [c] at a3
      exact ⟨by rw [e0 7 (by omega)]; exact a3.1, a3.2.same fun q x y => e q (by omega) (by omega)⟩
  · rw [e2, e0 10 (by omega)]; exact a4
  · rw [e3, e0 11 (by omega)]; exact a5
  · rw [e5]; unfold LN; rw [e 60 (by omega) (by omega), e 61 (by omega) (by omega)]; exact a6
  · rw [e4, e 56 (by omega) (by omega), e 57 (by omega) (by omega)]; exact a7
theorem s_remember {K : IT → Prop} {T : TS} {t : Nat} (w : WT t T) (hC : KCR I T) (h : ∀ I', KCR I' (T.push T.h) → Cd I I' → (∀ q, 0 < q → q < 62 → I' q = I q) → K I') : f_X8_remember I K := by
  obtain ⟨n, n1, n2, n3, n4⟩ := hC.2.1
  have hpc := w.2.1
  have hs10 := w.1.2.2.2.2.2.2.2.1
  have hz := hC.2.2.2.2.2.2.2
  unfold f_X8_remember
  rw [n2, inr_n (by omega), ix_n (by omega)]
  refine ⟨n1, s_copyH (a := 62 + 16 * n) (b := 1) hC.1 hs10 (by omega) (hz _ (Or.inr (Or.inr (Or.inr ⟨n, n1, rfl⟩)))) fun I2 r2 m2 z2 => ?_⟩
  have h0 : I2 0 = I 0 := m2 0 (by omega)
  have hmod : nI (n + 1) - nI (n + 1) / nI 8 * nI 8 = nI ((n + 1) % 8) := by
    rw [n_div (by omega) (by omega) (by omega), pk_mul, n_sub (by omega)]
    congr 1; omega
  have hmin : (if nI 8 < nI (T.pc + 1) then nI 8 else nI (T.pc + 1)) = nI (min 8 (T.pc + 1)) := by
    by_cases q : 8 < T.pc + 1
    · rw [if_pos ((nI_ltI (by omega) (by omega)).mpr q)]; congr 1; omega
    · rw [if_neg (fun z => q ((nI_ltI (by omega) (by omega)).mp z))]; congr 1; omega
  rw [wr_p, wr_p, h0, n2, nI_add, hmod, up2_nej (by decide), h0, n3, nI_add, hmin]
  have far : ∀ q, 0 < q → (q < 62 + 16 * n ∨ 62 + 16 * n + 16 ≤ q) → (up2 (up2 I2 0 9 (nI ((n + 1) % 8))) 0 8 (nI (min 8 (T.pc + 1)))) q = I q := fun q a b => by rw [up2_ne (by omega), up2_ne (by omega)]; exact m2 q b
  have near : ∀ q, 0 < q → (up2 (up2 I2 0 9 (nI ((n + 1) % 8))) 0 8 (nI (min 8 (T.pc + 1)))) q = I2 q := fun q a => by rw [up2_ne (by omega), up2_ne (by omega)]
  refine h _ (hC.of (hC.1.same fun q a b => far q (by omega) (by omega)) ⟨(n + 1) % 8, by omega, by rw [up2_nej (by decide), up2_same], up2_same, fun i hi => ?_⟩ (fun q a b => far q (by omega) (by omega)) (fun j hj => by rw [up2_nej (by omega), up2_nej (by omega), h0]) (fun a ha => ?_) rfl rfl rfl rfl rfl) (fun q hq => far q (by omega) (by omega)) (fun q a b => far q a (by omega))
  · have hi : i < min 8 (T.pc + 1) := hi
    show HR _ (62 + 16 * (((n + 1) % 8 + 7 - i) % 8)) (if i = 0 then T.h else T.p (i - 1))
    by_cases e : i = 0
    · rw [if_pos e, show ((n + 1) % 8 + 7 - i) % 8 = n by omega]
      exact r2.same fun q a b => near q (by omega)
    · rw [if_neg e, show ((n + 1) % 8 + 7 - i) % 8 = (n + 7 - (i - 1)) % 8 by omega]
      refine (n4 (i - 1) (by omega)).same fun q a b => far q (by omega) ?_
      have : (n + 7 - (i - 1)) % 8 ≠ n := by omega
      omega
  · have ha2 : 0 < a + 15 := by omega
    by_cases e : a = 62 + 16 * n
    · subst e; rw [near _ ha2]; exact z2
    · have hb : a + 15 < 62 + 16 * n ∨ 62 + 16 * n + 16 ≤ a + 15 := by
        rcases ha with q | q | q | ⟨k, q1, q2⟩ <;> omega
      rw [far _ ha2 hb]; exact hz a ha
/-- a change -/
theorem s_change {K : Int32 → IT → Prop} {KT : String → IT → Prop} {T : TS} {t v : Nat} (hv : v < 13) (x y z u : Int32) (w : WT t T) (ht : t ≤ 8000) (hC : KCR I T) (hx : v = 11 → 0 ≤ x.toInt) (k1 : refN v T.h x.toInt y.toInt z.toInt u.toInt = 0 → ∀ I', KCR I' (T.push (nxtN v T.h (ix x) (ix y) (ix z) (ix u))) → Cd I I' → HW (nxtN v T.h (ix x) (ix y) (ix z) (ix u)) → K (nI (resN v T.h (ix x) (ix y) (ix z) (ix u))) I') (k2 : ∀ r, refN v T.h x.toInt y.toInt z.toInt u.toInt = r → r ≠ 0 → KT (if r = 1 then "java/lang/IndexOutOfBoundsException" else if r = 2 then "java/lang/IllegalArgumentException" else if r = 3 then "java/lang/IllegalStateException" else "java/util/NoSuchElementException") I) : f_X8_change (1000000 + v) x y z u I K KT := by
  unfold f_X8_change
  have hT := w.1.2
  refine s_refusal hC.1 hT ht hv x y z u ?_
  have r4 := ref_le v T.h x.toInt y.toInt z.toInt u.toInt
  cases e : refN v T.h x.toInt y.toInt z.toInt u.toInt with
  | zero =>
    unfold f_X8_requireAllowed
    rw [if_neg (by decide), if_neg (by decide), if_neg (by decide), if_neg (by decide)]
    refine s_remember w hC fun I2 c2 d2 _ => ?_
    refine s_perform c2.1 hT ht hv x y z u e hx fun I4 r4 m4 => ?_
    refine k1 e I4 (c2.of r4 ?_ (fun q a b => m4 q (by omega)) (fun j hj => by rw [m4 0 (by omega)]) (fun a ha => ?_) rfl rfl rfl rfl rfl) (fun q hq => by rw [m4 q (by omega)]; exact d2 q hq) r4.w
    · obtain ⟨n, n1, n2, n3, n4⟩ := c2.2.1
      exact ⟨n, n1, by rw [m4 0 (by omega)]; exact n2, by rw [m4 0 (by omega)]; exact n3, fun i hi => (n4 i hi).same fun q a b => m4 q (by omega)⟩
    · by_cases e2 : a = 1
      · subst e2
        have := r4.2.2.1.2.2.2.2.2.2 0 (Nat.zero_le _)
        exact this
      · have hb : 1 + 16 ≤ a + 15 := by
          rcases ha with q | q | q | ⟨k, q1, q2⟩ <;> omega
        rw [m4 (a + 15) (by omega)]
        exact c2.2.2.2.2.2.2.2 a ha
  | succ r =>
    rw [e] at r4
    have := k2 (r + 1) e (by omega)
    unfold f_X8_requireAllowed
    rcases (show r = 0 ∨ r = 1 ∨ r = 2 ∨ r = 3 by omega) with rfl | rfl | rfl | rfl
    · rw [if_pos rfl]; exact this
    · rw [if_neg (by decide), if_pos rfl]; exact this
    · rw [if_neg (by decide), if_neg (by decide), if_pos rfl]; exact this
    · rw [if_neg (by decide), if_neg (by decide), if_neg (by decide), if_pos rfl]; exact this
end C
