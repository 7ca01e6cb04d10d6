/-! ===== floats that are whole eighths ===== -/
/-- a is i eighths -/
def Q8 (i : Int) (a : UInt32) : Prop := ∃ (s : Bool) (c : Nat) (q : Int) (n : Nat), FP.Core.val32 a = .fin s c q ∧ -149 ≤ q ∧ c * 2 ^ (q + 149).toNat = n * 2 ^ 146 ∧ FP.Core.signed s n = i
theorem pw8 {c n : Nat} {x : Int} {A : Nat} (hx : 0 ≤ x + A) (h : c * 2 ^ (x + A).toNat = n * 2 ^ A) : c * 2 ^ x.toNat = n * 2 ^ (-x).toNat := by
  by_cases g : 0 ≤ x
  · rw [show (-x).toNat = 0 by omega, Nat.pow_zero, Nat.mul_one]
    rw [show (x + A).toNat = x.toNat + A by omega, Nat.pow_add, ← Nat.mul_assoc] at h
    exact Nat.eq_of_mul_eq_mul_right (Nat.two_pow_pos A) h
  · rw [show x.toNat = 0 by omega, Nat.pow_zero, Nat.mul_one]
    have e : A = (-x).toNat + (x + A).toNat := by omega
    generalize (x + (A : Int)).toNat = B at *
    rw [e, Nat.pow_add, ← Nat.mul_assoc] at h
    exact Nat.eq_of_mul_eq_mul_right (Nat.two_pow_pos B) h
theorem Q8.rnd {a : UInt32} {s : Bool} {c n : Nat} {q k : Int} (hn : n < 2 ^ 24) (h : c * 2 ^ (q + 3).toNat = n * 2 ^ (-(q + 3)).toNat) (hs : FP.Core.signed s n = k) (hv : FP.Core.val32 a = FP.Core.round FP.Core.b32 (.fin s c q)) : Q8 k a := by
  have e : FP.Core.round FP.Core.b32 (.fin s c q) = FP.Core.round FP.Core.b32 (.fin s n (-3)) := by
    show FP.Core.roundRatio FP.Core.b32 s c 1 q = FP.Core.roundRatio FP.Core.b32 s n 1 (-3)
    refine FP.Core.roundRatio_congr (by decide) (by decide) ?_
    rw [Nat.mul_one, Nat.mul_one, show (q - -3) = q + 3 by omega, show (-3 - q) = -(q + 3) by omega]
    exact h
  obtain ⟨c', q', h1, h2⟩ := FP.Core.round_exact FP.Core.good_b32 s (c := n) (q := -3) hn (by decide) (by decide)
  have hf := FP.Core.val32_fits a
  rw [e, h1] at hv
  rw [hv] at hf
  have hq : -149 ≤ q' := hf.2.1
  refine ⟨s, c', q', n, hv, hq, ?_, hs⟩
  have h2 : c' * 2 ^ (q' - -149).toNat = n * 2 ^ (-3 - -149 : Int).toNat := h2
  rw [show q' - -149 = q' + 149 by omega] at h2
  exact h2
theorem Q8.nan {i : Int} {a : UInt32} (h : Q8 i a) : FP.fIsNaN a = false := by
  obtain ⟨s, c, q, n, h, -⟩ := h
  exact FP.Core.FFin.notNaN (a := a) ⟨s, c, q, h⟩
theorem Q8.n32 {i : Int} {a : UInt32} (h : Q8 i a) : vf_n32 a := fl_n32 h.nan
theorem sg8 (s : Bool) (n P : Nat) : FP.Core.signed s (n * P) = FP.Core.signed s n * (P : Int) := by
  cases s
  · show ((n * P : Nat) : Int) = (n : Int) * P
    exact Int.natCast_mul n P
  · show -((n * P : Nat) : Int) = -(n : Int) * P
    rw [Int.natCast_mul, Int.neg_mul]
theorem Q8.z {i : Int} {a : UInt32} (h : Q8 i a) : FP.Core.val32 a ≠ .nan ∧ FP.Core.zval FP.Core.b32 (FP.Core.val32 a) = i * ((2 ^ 146 : Nat) : Int) := by
  obtain ⟨s, c, q, n, h1, h2, h3, h4⟩ := h
  refine ⟨by rw [h1]; exact FP.Core.Datum.noConfusion, ?_⟩
  rw [h1]
  show FP.Core.signed s (c * 2 ^ (q - -149).toNat) = _
  rw [show q - -149 = q + 149 by omega, h3, sg8, h4]
theorem Q8.cmp {i j : Int} {a b : UInt32} (h : Q8 i a) (h' : Q8 j b) : FP.fcmp a b = some (compare i j) := by
  have e := FP.Core.fcmp_zval h.z.1 h'.z.1
  rw [h.z.2, h'.z.2, FP.Core.compare_mul_pos _ _ _ (by decide)] at e
  exact e
theorem sgA (s : Bool) (n : Nat) : (FP.Core.signed s n).natAbs = n := by
  cases s
  · exact Int.natAbs_natCast n
  · show (-(n : Int)).natAbs = n
    omega
theorem sgN (b : Bool) (v : Int) (h : v ≠ 0 → b = decide (v < 0)) : FP.Core.signed b v.natAbs = v := by
  by_cases g : v = 0
  · subst g
    cases b <;> rfl
  · rw [h g]
    by_cases g2 : v < 0
    · rw [decide_eq_true g2]
      show -((v.natAbs : Nat) : Int) = v
      omega
    · rw [decide_eq_false g2]
      show ((v.natAbs : Nat) : Int) = v
      omega
theorem sgS {s : Bool} {c : Nat} {q e i : Int} {n : Nat} (h2 : -149 ≤ e) (hq : e ≤ q) (h3 : c * 2 ^ (q + 149).toNat = n * 2 ^ 146) (h4 : FP.Core.signed s n = i) : FP.Core.signed s (FP.Core.inUnits c q e) * ((2 ^ (e + 149).toNat : Nat) : Int) = i * ((2 ^ 146 : Nat) : Int) := by
  rw [← sg8]
  show FP.Core.signed s (c * 2 ^ (q - e).toNat * 2 ^ (e + 149).toNat) = _
  rw [Nat.mul_assoc, ← Nat.pow_add, show (q - e).toNat + (e + 149).toNat = (q + 149).toNat by omega, h3, sg8, h4]
theorem sum8 {x : FP.Core.Datum} {y : FP.Core.Datum} {a : UInt32} {s t : Bool} {c d n m : Nat} {q r i j : Int} (hx : x = .fin s c q) (hy : y = .fin t d r) (h2 : -149 ≤ q) (g2 : -149 ≤ r) (h3 : c * 2 ^ (q + 149).toNat = n * 2 ^ 146) (g3 : d * 2 ^ (r + 149).toNat = m * 2 ^ 146) (h4 : FP.Core.signed s n = i) (g4 : FP.Core.signed t m = j) (hv : FP.Core.val32 a = FP.Core.round FP.Core.b32 (FP.Core.exactSum x y)) (hb : (i + j).natAbs < 2 ^ 24) : Q8 (i + j) a := by
  subst hx
  subst hy
  have he : -149 ≤ min q r := by omega
  have e1 := sgS (s := s) (i := i) he (Int.min_le_left q r) h3 h4
  have e2 := sgS (s := t) (i := j) he (Int.min_le_right q r) g3 g4
  have hx : FP.Core.exactSum (.fin s c q) (.fin t d r) = .fin (FP.Core.sumSign s t (FP.Core.sumUnits s c q t d r (min q r))) (FP.Core.sumUnits s c q t d r (min q r)).natAbs (min q r) := rfl
  rw [hx] at hv
  have ev : FP.Core.sumUnits s c q t d r (min q r) * ((2 ^ (min q r + 149).toNat : Nat) : Int) = (i + j) * ((2 ^ 146 : Nat) : Int) := by
    show (_ + _) * _ = _
    rw [Int.add_mul, e1, e2, Int.add_mul]
  generalize FP.Core.sumUnits s c q t d r (min q r) = v at *
  generalize min q r = e at *
  have hp : (0 : Int) < ((2 ^ (e + 149).toNat : Nat) : Int) := by have := Nat.two_pow_pos (e + 149).toNat; omega
  have hp2 : (0 : Int) < ((2 ^ 146 : Nat) : Int) := by decide
  have hlt : v < 0 ↔ i + j < 0 := by
    have a1 := Int.mul_lt_mul_right (b := v) (c := 0) hp
    have a2 := Int.mul_lt_mul_right (b := i + j) (c := 0) hp2
    rw [Int.zero_mul] at a1 a2
    rw [← a1, ev, a2]
  have heq : v = 0 ↔ i + j = 0 := by
    have a1 : v * ((2 ^ (e + 149).toNat : Nat) : Int) = 0 ↔ v = 0 := Int.mul_eq_zero.trans ⟨fun h => h.resolve_right (by omega), Or.inl⟩
    have a2 : (i + j) * ((2 ^ 146 : Nat) : Int) = 0 ↔ i + j = 0 := Int.mul_eq_zero.trans ⟨fun h => h.resolve_right (by decide), Or.inl⟩
    rw [← a1, ev, a2]
  have hN : v.natAbs * 2 ^ (e + 149).toNat = (i + j).natAbs * 2 ^ 146 := by
    have := congrArg Int.natAbs ev
    rw [Int.natAbs_mul, Int.natAbs_mul, Int.natAbs_natCast, Int.natAbs_natCast] at this
    exact this
  refine Q8.rnd (s := FP.Core.sumSign s t v) (c := v.natAbs) (n := (i + j).natAbs) (q := e) hb ?_ ?_ hv
  · refine pw8 (A := 146) (by omega) ?_
    rw [show e + 3 + ((146 : Nat) : Int) = e + 149 by omega]
    exact hN
  · refine sgN _ _ fun h => ?_
    unfold FP.Core.sumSign
    rw [if_neg (fun z => h (heq.mp z))]
    exact decide_eq_decide.mpr hlt
theorem Q8.add {i j : Int} {a b : UInt32} (h : Q8 i a) (h' : Q8 j b) (hb : (i + j).natAbs < 2 ^ 24) : Q8 (i + j) (FP.fadd a b) := by
  obtain ⟨s, c, q, n, h1, h2, h3, h4⟩ := h
  obtain ⟨t, d, r, m, g1, g2, g3, g4⟩ := h'
  exact sum8 h1 g1 h2 g2 h3 g3 h4 g4 (FP.Core.val32_fadd a b) hb
theorem Q8.sub {i j : Int} {a b : UInt32} (h : Q8 i a) (h' : Q8 j b) (hb : (i - j).natAbs < 2 ^ 24) : Q8 (i - j) (FP.fsub a b) := by
  obtain ⟨s, c, q, n, h1, h2, h3, h4⟩ := h
  obtain ⟨t, d, r, m, g1, g2, g3, g4⟩ := h'
  have g5 : FP.Core.signed (!t) m = -j := by
    rw [← g4]
    cases t
    · rfl
    · show (m : Int) = - -(m : Int)
      omega
  rw [Int.sub_eq_add_neg] at hb ⊢
  exact sum8 h1 (by rw [g1]; rfl) h2 g2 h3 g3 h4 g5 (FP.Core.val32_fsub a b) hb
theorem Q8.mul {i j k : Int} {a b : UInt32} (h : Q8 i a) (h' : Q8 j b) (hk : i * j = 8 * k) (hb : k.natAbs < 2 ^ 24) : Q8 k (FP.fmul a b) := by
  obtain ⟨s, c, q, n, h1, h2, h3, h4⟩ := h
  obtain ⟨t, d, r, m, g1, g2, g3, g4⟩ := h'
  have hN : n * m = 8 * k.natAbs := by
    have hi : i.natAbs = n := by rw [← h4]; exact sgA s n
    have hj : j.natAbs = m := by rw [← g4]; exact sgA t m
    have := congrArg Int.natAbs hk
    rw [Int.natAbs_mul, Int.natAbs_mul, hi, hj] at this
    exact this
  have hs : FP.Core.signed (s != t) (n * m) = i * j := by
    rw [← h4, ← g4]
    cases s <;> cases t <;> simp [FP.Core.signed, Int.natCast_mul, Int.neg_mul, Int.mul_neg, Int.neg_neg]
  refine Q8.rnd (s := s != t) (c := c * d) (q := q + r) (n := k.natAbs) hb ?_ ?_ ((FP.Core.val32_fmul a b).trans ?_)
  · refine pw8 (A := 295) (by omega) ?_
    have := congr (congrArg HMul.hMul h3) g3
    have e1 : c * 2 ^ (q + 149).toNat * (d * 2 ^ (r + 149).toNat) = c * d * 2 ^ (q + r + 3 + ((295 : Nat) : Int)).toNat := by
      rw [show (q + r + 3 + ((295 : Nat) : Int)).toNat = (q + 149).toNat + (r + 149).toNat by omega, Nat.pow_add]
      ac_rfl
    have e2 : n * 2 ^ 146 * (m * 2 ^ 146) = k.natAbs * 2 ^ 295 := by
      rw [show n * 2 ^ 146 * (m * 2 ^ 146) = n * m * (2 ^ 146 * 2 ^ 146) by ac_rfl, hN]
      omega
    rw [← e1, this, e2]
  · rw [hN, hk] at hs
    have hs : FP.Core.signed (s != t) (8 * k.natAbs) = 8 * k := hs
    generalize (s != t) = b at hs
    cases b
    · have hs : ((8 * k.natAbs : Nat) : Int) = 8 * k := hs
      show ((k.natAbs : Nat) : Int) = k
      omega
    · have hs : -((8 * k.natAbs : Nat) : Int) = 8 * k := hs
      show -((k.natAbs : Nat) : Int) = k
      omega
  · rw [h1, g1]; rfl
theorem Q8.i2f {n : Nat} (h : n < 2 ^ 21) : Q8 (8 * (n : Int)) (FP.i2f (nI n)) := by
  have h0 := FP.Core.i2f_int (a := nI n) (by rw [nI_toInt (by omega)]; omega)
  rw [nI_toInt (by omega)] at h0
  obtain ⟨s, c, q, hv⟩ := FP.Core.i2f_fin (nI n)
  have hf := FP.Core.val32_fits (FP.i2f (nI n))
  have hv : FP.Core.val32 (FP.i2f (nI n)) = .fin s c q := hv
  have h0 : FP.Core.Whole (n : Int) (FP.Core.val32 (FP.i2f (nI n))) := h0
  rw [hv] at hf h0
  have hq : -149 ≤ q := hf.2.1
  have h0 : FP.Core.signed s (c * 2 ^ q.toNat) = (n : Int) * ((2 ^ (-q).toNat : Nat) : Int) := h0
  refine ⟨s, c, q, 8 * n, hv, hq, ?_, ?_⟩
  · have h1 := congrArg Int.natAbs h0
    rw [Int.natAbs_mul, Int.natAbs_natCast, Int.natAbs_natCast] at h1
    have h2 : (FP.Core.signed s (c * 2 ^ q.toNat)).natAbs = c * 2 ^ q.toNat := sgA s _
    rw [h2] at h1
    by_cases g : 0 ≤ q
    · rw [show (-q).toNat = 0 by omega, Nat.pow_zero, Nat.mul_one] at h1
      rw [show (q + 149).toNat = q.toNat + 149 by omega, Nat.pow_add, ← Nat.mul_assoc, h1]
      omega
    · rw [show q.toNat = 0 by omega, Nat.pow_zero, Nat.mul_one] at h1
      rw [h1, Nat.mul_assoc, ← Nat.pow_add, show (-q).toNat + (q + 149).toNat = 149 by omega]
      omega
  · cases s
    · show ((8 * n : Nat) : Int) = _
      omega
    · have h0 : -((c * 2 ^ q.toNat : Nat) : Int) = (n : Int) * ((2 ^ (-q).toNat : Nat) : Int) := h0
      have hp : (0 : Int) ≤ (n : Int) * ((2 ^ (-q).toNat : Nat) : Int) := Int.mul_nonneg (Int.natCast_nonneg _) (Int.natCast_nonneg _)
      have hz : (n : Int) * ((2 ^ (-q).toNat : Nat) : Int) = 0 := by omega
      have hn : n = 0 := by
        rcases Int.mul_eq_zero.mp hz with g | g
        · omega
        · have := Nat.two_pow_pos (-q).toNat
          omega
      subst hn
      rfl
theorem Q8.f2i {n : Nat} {a : UInt32} (h : Q8 (8 * (n : Int)) a) (hn : n < 2 ^ 31) : FP.f2i a = nI n := by
  obtain ⟨s, c, q, m, h1, h2, h3, h4⟩ := h
  refine FP.Core.f2i_int (a := nI n) ?_
  rw [nI_toInt hn]
  show FP.Core.Whole (n : Int) (FP.Core.val32 a)
  rw [h1]
  show FP.Core.signed s (c * 2 ^ q.toNat) = (n : Int) * ((2 ^ (-q).toNat : Nat) : Int)
  have hm : m = 8 * n := by
    cases s
    · have h4 : (m : Int) = 8 * n := h4
      omega
    · have h4 : -(m : Int) = 8 * n := h4
      omega
  have e : c * 2 ^ q.toNat = n * 2 ^ (-q).toNat := by
    refine pw8 (A := 149) (by omega) ?_
    rw [show q + ((149 : Nat) : Int) = q + 149 by omega, h3, hm]
    omega
  rw [e]
  cases s
  · exact Int.natCast_mul _ _
  · have h4 : -(m : Int) = 8 * n := h4
    have : n = 0 := by omega
    subst this
    simp [FP.Core.signed]
theorem Q8_0 : Q8 0 FP.fconst0 := ⟨false, 0, -149, 0, by decide +kernel, by decide, by decide, rfl⟩
theorem Q8_c {a : UInt32} {c : Nat} {q : Int} {n : Nat} (h : FP.Core.val32 a = .fin false c q) (hq : -149 ≤ q) (e : c * 2 ^ (q + 149).toNat = n * 2 ^ 146) : Q8 (n : Int) a := ⟨false, c, q, n, h, hq, e, rfl⟩
theorem Q8_e : Q8 1 1040187392 := Q8_c (n := 1) (c := 2 ^ 23) (q := -26) (by decide +kernel) (by decide) (by decide +kernel)
theorem Q8_q : Q8 2 1048576000 := Q8_c (n := 2) (c := 2 ^ 23) (q := -25) (by decide +kernel) (by decide) (by decide +kernel)
theorem Q8_h : Q8 4 1056964608 := Q8_c (n := 4) (c := 2 ^ 23) (q := -24) (by decide +kernel) (by decide) (by decide +kernel)
theorem Q8_2 : Q8 16 FP.fconst2 := Q8_c (n := 16) (c := 2 ^ 23) (q := -22) (by decide +kernel) (by decide) (by decide +kernel)
theorem Q8_8 : Q8 64 1090519040 := Q8_c (n := 64) (c := 2 ^ 23) (q := -20) (by decide +kernel) (by decide) (by decide +kernel)
theorem Q8_20 : Q8 160 1101004800 := Q8_c (n := 160) (c := 10485760) (q := -19) (by decide +kernel) (by decide) (by decide +kernel)
theorem Q8_100 : Q8 800 1120403456 := Q8_c (n := 800) (c := 13107200) (q := -17) (by decide +kernel) (by decide) (by decide +kernel)
/-- what the class answers as eighths, as halves -/
abbrev e8 (n : Nat) : UInt32 := FP.fmul (FP.i2f (nI n)) 1040187392
abbrev h8 (n : Nat) : UInt32 := FP.fmul (FP.i2f (nI n)) 1056964608
theorem Q8.e8 {n : Nat} (h : n < 2 ^ 21) : Q8 (n : Int) (e8 n) := (Q8.i2f h).mul Q8_e (by omega) (by omega)
theorem Q8.h8 {n : Nat} (h : n < 2 ^ 21) : Q8 (4 * (n : Int)) (h8 n) := (Q8.i2f h).mul Q8_h (by omega) (by omega)
section Cmp
variable {i j : Int} {a b : UInt32}
theorem cv_l (h : Q8 i a) (h' : Q8 j b) : Op.cmpValue (FP.fcmp a b) .l = (match compare i j with | .lt => -1 | .eq => 0 | .gt => 1) := by
  rw [h.cmp h']
  cases compare i j <;> rfl
theorem cv_g (h : Q8 i a) (h' : Q8 j b) : Op.cmpValue (FP.fcmp a b) .g = (match compare i j with | .lt => -1 | .eq => 0 | .gt => 1) := by
  rw [h.cmp h']
  cases compare i j <;> rfl
theorem cv_i {x : Int32} (e : x = (match compare i j with | .lt => -1 | .eq => 0 | .gt => 1)) : (x < 0 ↔ i < j) ∧ (x = 0 ↔ i = j) ∧ (x ≤ 0 ↔ i ≤ j) ∧ (0 < x ↔ j < i) ∧ (0 ≤ x ↔ j ≤ i) := by
  subst e
  cases h : compare i j
  · have := (FP.Core.compare_lt_iff i j).mp h
    refine ⟨⟨fun _ => this, fun _ => by decide⟩, ⟨fun q => absurd q (by decide), fun q => by omega⟩, ⟨fun _ => by omega, fun _ => by decide⟩, ⟨fun q => absurd q (by decide), fun q => by omega⟩, ⟨fun q => absurd q (by decide), fun q => by omega⟩⟩
  · have := (FP.Core.compare_eq_iff i j).mp h
    refine ⟨⟨fun q => absurd q (by decide), fun q => by omega⟩, ⟨fun _ => this, fun _ => rfl⟩, ⟨fun _ => by omega, fun _ => by decide⟩, ⟨fun q => absurd q (by decide), fun q => by omega⟩, ⟨fun _ => by omega, fun _ => by decide⟩⟩
  · have := (FP.Core.compare_gt_iff i j).mp h
    refine ⟨⟨fun q => absurd q (by decide), fun q => by omega⟩, ⟨fun q => absurd q (by decide), fun q => by omega⟩, ⟨fun q => absurd q (by decide), fun q => by omega⟩, ⟨fun _ => this, fun _ => by decide⟩, ⟨fun _ => by omega, fun _ => by decide⟩⟩
theorem cl (h : Q8 i a) (h' : Q8 j b) : (Op.cmpValue (FP.fcmp a b) .l < 0 ↔ i < j) ∧ (Op.cmpValue (FP.fcmp a b) .l = 0 ↔ i = j) ∧ (Op.cmpValue (FP.fcmp a b) .l ≤ 0 ↔ i ≤ j) ∧ (0 < Op.cmpValue (FP.fcmp a b) .l ↔ j < i) ∧ (0 ≤ Op.cmpValue (FP.fcmp a b) .l ↔ j ≤ i) := cv_i (cv_l h h')
theorem cg (h : Q8 i a) (h' : Q8 j b) : (Op.cmpValue (FP.fcmp a b) .g < 0 ↔ i < j) ∧ (Op.cmpValue (FP.fcmp a b) .g = 0 ↔ i = j) ∧ (Op.cmpValue (FP.fcmp a b) .g ≤ 0 ↔ i ≤ j) ∧ (0 < Op.cmpValue (FP.fcmp a b) .g ↔ j < i) ∧ (0 ≤ Op.cmpValue (FP.fcmp a b) .g ↔ j ≤ i) := cv_i (cv_g h h')
theorem Q8.mxf {n m : Nat} (h : Q8 (n : Int) a) (h' : Q8 (m : Int) b) : Q8 ((max n m : Nat) : Int) (Native.java_lang_Math.nans.pick32 true a b) := by
  unfold Native.java_lang_Math.nans.pick32
  rw [h.cmp h']
  cases g : compare (n : Int) (m : Int)
  · have := (FP.Core.compare_lt_iff (n : Int) (m : Int)).mp g
    rw [show max n m = m by omega]
    exact h'
  · have := (FP.Core.compare_eq_iff (n : Int) (m : Int)).mp g
    have e1 : max n m = n := by omega
    have e2 : max n m = m := by omega
    dsimp only
    split
    · show Q8 ((max n m : Nat) : Int) b
      rw [e2]; exact h'
    · show Q8 ((max n m : Nat) : Int) a
      rw [e1]; exact h
  · have := (FP.Core.compare_gt_iff (n : Int) (m : Int)).mp g
    rw [show max n m = n by omega]
    exact h
end Cmp
