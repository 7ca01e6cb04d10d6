/-! ===== the memory as numbers (of both stages); a word of the library's laws of floats, so that a round is read over all of it from the first part on ===== -/
abbrev IT : Type := Nat → Nat → Int32
abbrev LT : Type := (Nat → Nat → Int64) × (Nat → Nat → UInt64)
def up2 {α : Type} (f : Nat → Nat → α) (a j : Nat) (v : α) : Nat → Nat → α := fun a' j' => if a' = a ∧ j' = j then v else f a' j'
theorem up2_ne {α : Type} {f : Nat → Nat → α} {a j a' : Nat} {v : α} (h : a' ≠ a) : up2 f a j v a' = f a' := by
  funext j'
  simp [up2, h]
theorem wd_0 (a : UInt32) : FP.dIsNaN (FP.f2d a) = FP.fIsNaN a := FP.f2d_nan a
