/-! ===== floats: eighths and halves ===== -/
theorem fl_eighth (x : Int32) : FP.fmul (FP.i2f x) 1040187392 = FP.fdiv (FP.i2f x) 1090519040 := by
  obtain ⟨s, c, q, h⟩ := FP.Core.i2f_fin x
  have h : FP.Core.val32 (FP.i2f x) = .fin s c q := h
  have h1 : FP.Core.val32 1040187392 = .fin false (2 ^ 23) (-26) := by decide +kernel
  have h2 : FP.Core.val32 1090519040 = .fin false (2 ^ 23) (-20) := by decide +kernel
  have e : FP.Core.round FP.Core.b32 (FP.Core.exactProduct (FP.Core.val32 (FP.i2f x)) (FP.Core.val32 1040187392)) = FP.Core.quotient FP.Core.b32 (FP.Core.val32 (FP.i2f x)) (FP.Core.val32 1090519040) := by
    rw [h, h1, h2]
    show FP.Core.roundRatio FP.Core.b32 (s != false) (c * 2 ^ 23) 1 (q + -26) = FP.Core.roundRatio FP.Core.b32 (s != false) c (2 ^ 23) (q - -20)
    refine FP.Core.roundRatio_congr (by decide) (by decide) ?_
    rw [show (q + -26 - (q - -20)).toNat = 0 by omega, show (q - -20 - (q + -26)).toNat = 46 by omega, Nat.mul_one]
    omega
  exact congrArg FP.Core.of32 e
theorem fl_half (x : Int32) : FP.fmul (FP.i2f x) 1056964608 = FP.fdiv (FP.i2f x) FP.fconst2 := by
  obtain ⟨s, c, q, h⟩ := FP.Core.i2f_fin x
  have h : FP.Core.val32 (FP.i2f x) = .fin s c q := h
  have h1 : FP.Core.val32 1056964608 = .fin false (2 ^ 23) (-24) := by decide +kernel
  have h2 : FP.Core.val32 FP.fconst2 = .fin false (2 ^ 23) (-22) := by decide +kernel
  have e : FP.Core.round FP.Core.b32 (FP.Core.exactProduct (FP.Core.val32 (FP.i2f x)) (FP.Core.val32 1056964608)) = FP.Core.quotient FP.Core.b32 (FP.Core.val32 (FP.i2f x)) (FP.Core.val32 FP.fconst2) := by
    rw [h, h1, h2]
    show FP.Core.roundRatio FP.Core.b32 (s != false) (c * 2 ^ 23) 1 (q + -24) = FP.Core.roundRatio FP.Core.b32 (s != false) c (2 ^ 23) (q - -22)
    refine FP.Core.roundRatio_congr (by decide) (by decide) ?_
    rw [show (q + -24 - (q - -22)).toNat = 0 by omega, show (q - -22 - (q + -24)).toNat = 46 by omega, Nat.mul_one]
    omega
  exact congrArg FP.Core.of32 e
theorem fl_n32 {a : UInt32} (h : FP.fIsNaN a = false) : vf_n32 a := by
  unfold vf_n32
  have h2 : FP.Core.fIsNaN a = false := h
  have h3 : ¬ 2139095040 < a.toNat % 2 ^ 31 := fun q => by
    have := (FP.Core.isNaN_bits32 a).mpr q
    rw [h2] at this; cases this
  rw [UInt32.le_iff_toNat_le, FP.Core.mask_toNat32]
  show a.toNat % 2 ^ 31 ≤ 2139095040
  omega
theorem fl_n64 {a : UInt64} (h : FP.dIsNaN a = false) : vf_n64 a := by
  unfold vf_n64
  have h2 : FP.Core.dIsNaN a = false := h
  have h3 : ¬ 9218868437227405312 < a.toNat % 2 ^ 63 := fun q => by
    have := (FP.Core.isNaN_bits a).mpr q
    rw [h2] at this; cases this
  rw [UInt64.le_iff_toNat_le, FP.Core.mask_toNat]
  show a.toNat % 2 ^ 63 ≤ 9218868437227405312
  omega
theorem fl_f2d {a : UInt32} (h : FP.fIsNaN a = false) : FP.dIsNaN (FP.f2d a) = false := (FP.f2d_nan a).trans h
theorem fl_fin_eighth (x : Int32) : FP.fIsNaN (FP.fmul (FP.i2f x) 1040187392) = false :=
  FP.Core.fmul_out (FP.Core.i2f_fin x) ⟨false, 2 ^ 23, -26, by decide +kernel⟩
theorem fl_fin_half (x : Int32) : FP.fIsNaN (FP.fmul (FP.i2f x) 1056964608) = false :=
  FP.Core.fmul_out (FP.Core.i2f_fin x) ⟨false, 2 ^ 23, -24, by decide +kernel⟩
theorem fl_self {a : UInt64} (h : FP.dIsNaN a = false) : Op.cmpValue (FP.dcmp a a) .l = 0 := by
  have e : FP.dcmp a a = some .eq := FP.Core.dcmp_refl h
  rw [e]; rfl
theorem fl_i2f (x : Int32) : FP.fIsNaN (FP.i2f x) = false := FP.Core.FFin.notNaN (FP.Core.i2f_fin x)
