/-! ===== numbers ===== -/
theorem nz_eq {n : Nat} (h : n < 2 ^ 31) : nI n = 0 ↔ n = 0 := by
  rw [← nI_0]; exact nI_eq h (by decide)
theorem nz_lt {n : Nat} (h : n < 2 ^ 31) : 0 < nI n ↔ 0 < n := by
  rw [← nI_0]; exact nI_ltI (by decide) h
theorem nz_le {n : Nat} (h : n < 2 ^ 31) : nI n ≤ 0 ↔ n = 0 := by
  rw [← nI_0, nI_leI h (by decide)]; omega
theorem nz_neg {n : Nat} (h : n < 2 ^ 31) : nI n < 0 ↔ False := iff_false_intro (nI_pos h)
theorem nz_ge {n : Nat} (h : n < 2 ^ 31) : 0 ≤ nI n ↔ True := iff_true_intro (nI_pos' h)
theorem xz_lt (x : Int32) : x < 0 ↔ x.toInt < 0 := by rw [Int32.lt_iff_toInt_lt, Int32.toInt_zero]
theorem xz_ge (x : Int32) : 0 ≤ x ↔ 0 ≤ x.toInt := by rw [Int32.le_iff_toInt_le, Int32.toInt_zero]
theorem xn_lt {x : Int32} {n : Nat} (h : n < 2 ^ 31) : x < nI n ↔ x.toInt < n := by rw [Int32.lt_iff_toInt_lt, nI_toInt h]
theorem nx_lt {x : Int32} {n : Nat} (h : n < 2 ^ 31) : nI n < x ↔ (n : Int) < x.toInt := by rw [Int32.lt_iff_toInt_lt, nI_toInt h]
theorem xn_le {x : Int32} {n : Nat} (h : n < 2 ^ 31) : x ≤ nI n ↔ x.toInt ≤ n := by rw [Int32.le_iff_toInt_le, nI_toInt h]
theorem nx_le {x : Int32} {n : Nat} (h : n < 2 ^ 31) : nI n ≤ x ↔ (n : Int) ≤ x.toInt := by rw [Int32.le_iff_toInt_le, nI_toInt h]
theorem xn_eq {x : Int32} {n : Nat} (h : n < 2 ^ 31) : x = nI n ↔ x.toInt = n := by
  constructor
  · rintro rfl; exact nI_toInt h
  · intro e; apply Int32.toInt_inj.mp; rw [e, nI_toInt h]
/-- an argument that is a natural -/
theorem x_nat {x : Int32} (h : 0 ≤ x.toInt) : ∃ n, n < 2 ^ 31 ∧ x = nI n ∧ x.toInt = n := by
  have h1 : ¬ x < 0 := by rw [xz_lt]; omega
  obtain ⟨n, h2, h3⟩ := nI_of h1
  exact ⟨n, h2, h3, by rw [h3, nI_toInt h2]⟩
theorem up2_same {α : Type} {f : Nat → Nat → α} {a j : Nat} {v : α} : up2 f a j v a j = v := by simp [up2]
theorem up2_nea {α : Type} {f : Nat → Nat → α} {a j a' j' : Nat} {v : α} (h : a' ≠ a) : up2 f a j v a' j' = f a' j' := by simp [up2, h]
theorem up2_nej {α : Type} {f : Nat → Nat → α} {a j a' j' : Nat} {v : α} (h : j' ≠ j) : up2 f a j v a' j' = f a' j' := by simp [up2, h]
theorem n_sub {a b : Nat} (h : b ≤ a) : nI a - nI b = nI (a - b) := pk_sub h
theorem n_addsub {a b c : Nat} (h : c ≤ a + b) : nI a + (nI b - nI c) = nI (a + b - c) := by
  rw [← n_sub h, ← nI_add]
  generalize nI a = x
  generalize nI b = y
  generalize nI c = z
  grind
/-- outside [a, a + n) nothing has changed -/
def Same (I I' : IT) (a n : Nat) : Prop := ∀ q, (q < a ∨ a + n ≤ q) → I' q = I q
theorem Same.rf {I : IT} {a n : Nat} : Same I I a n := fun _ _ => rfl
theorem Same.up {I I' : IT} {a n b j : Nat} {v : Int32} (h : Same I I' a n) (h1 : a ≤ b) (h2 : b < a + n) : Same I (up2 I' b j v) a n := fun q hq => by rw [up2_ne (by omega)]; exact h q hq
theorem Same.tr {I I' I2 : IT} {a n b m : Nat} (h : Same I I' a n) (h' : Same I' I2 b m) (h1 : a ≤ b) (h2 : b + m ≤ a + n) : Same I I2 a n := fun q hq => (h' q (by omega)).trans (h q hq)
