/-! ===== numbers, as equations for simp ===== -/
theorem ix_n {n : Nat} (h : n < 2147483648) : ix (nI n) = n := nI_clamp h
theorem inr_n {k n : Nat} (h : k < 2147483648) : inr (nI k) n = (k < n) := by
  unfold inr
  rw [nI_toInt h]
  exact propext ⟨fun q => by omega, fun q => by omega⟩
theorem n_eqP {a b : Nat} (ha : a < 2147483648) (hb : b < 2147483648) : (nI a = nI b) = (a = b) := propext (nI_eq ha hb)
theorem n_ltP {a b : Nat} (ha : a < 2147483648) (hb : b < 2147483648) : (nI a < nI b) = (a < b) := propext (nI_ltI ha hb)
theorem n_leP {a b : Nat} (ha : a < 2147483648) (hb : b < 2147483648) : (nI a ≤ nI b) = (a ≤ b) := propext (nI_leI ha hb)
theorem n_eq0 {a : Nat} (ha : a < 2147483648) : (nI a = 0) = (a = 0) := propext (nz_eq ha)
theorem n_lt0 {a : Nat} (ha : a < 2147483648) : (0 < nI a) = (0 < a) := propext (nz_lt ha)
theorem n_le0 {a : Nat} (ha : a < 2147483648) : (nI a ≤ 0) = (a = 0) := propext (nz_le ha)
theorem n_neg {a : Nat} (ha : a < 2147483648) : (nI a < 0) = False := propext (nz_neg ha)
theorem n_ge0 {a : Nat} (ha : a < 2147483648) : (0 ≤ nI a) = True := propext (nz_ge ha)
theorem n_m1 {a : Nat} (ha : a < 2147483648) : (nI a = (-1 : Int32)) = False := propext (iff_false_intro fun e => by
  have := congrArg Int32.toInt e
  rw [nI_toInt ha] at this
  have h2 : (-1 : Int32).toInt = -1 := rfl
  omega)
theorem m1_eq0 : ((-1 : Int32) = 0) = False := by decide
theorem m1_m1 : ((-1 : Int32) = -1) = True := by decide
theorem one_eq0 : (nI 1 = (0 : Int32)) = False := by decide
theorem nul_eq0 : (nI 0 = (0 : Int32)) = True := by decide
/-- a truth value -/
def zb (p : Prop) [Decidable p] : Int32 := if p then nI 1 else nI 0
theorem zb_t {p : Prop} [Decidable p] (h : p) : zb p = nI 1 := if_pos h
theorem zb_f {p : Prop} [Decidable p] (h : ¬ p) : zb p = nI 0 := if_neg h
theorem zb_eq0 {p : Prop} [Decidable p] : (zb p = 0) = ¬ p := bz_eq0 p
theorem zb_isZ {p : Prop} [Decidable p] : isZ (zb p) := by
  by_cases h : p
  · rw [zb_t h]; exact Or.inr rfl
  · rw [zb_f h]; exact Or.inl rfl
theorem isZ_n {n : Nat} (h : n ≤ 1) : isZ (nI n) := by
  rcases (show n = 0 ∨ n = 1 by omega) with rfl | rfl
  · exact Or.inl rfl
  · exact Or.inr rfl
theorem optI_m1 {r : Option Nat} (h : ∀ j, r = some j → j < 2147483648) : (optI r = (-1 : Int32)) = (r = none) := by
  cases r with
  | none => exact propext ⟨fun _ => rfl, fun _ => rfl⟩
  | some j => rw [optI_some, n_m1 (h j rfl)]; exact propext ⟨fun q => q.elim, fun q => by cases q⟩
theorem n_div {a d : Nat} (ha : a < 2147483648) (hd : d < 2147483648) (h0 : 0 < d) : nI a / nI d = nI (a / d) := pk_div ha h0 hd
/-- (not by rfl: so the kernel needn't find the way itself) -/
theorem wr_p {I : IT} {a j : Nat} {v : Int32} {K : IT → Prop} : wr I a j v K = K (up2 I a j v) := propext Iff.rfl
theorem bnd_p {x : Int32} {K : Int32 → Prop} : bnd x K = K x := propext Iff.rfl
