/-! ===== House.refusal ===== -/
theorem ordN_at {v : Nat} (h : v < 13) : ordN (1000000 + v) = v := by
  rcases (show v = 0 ∨ v = 1 ∨ v = 2 ∨ v = 3 ∨ v = 4 ∨ v = 5 ∨ v = 6 ∨ v = 7 ∨ v = 8 ∨ v = 9 ∨ v = 10 ∨ v = 11 ∨ v = 12 by omega) with rfl | rfl | rfl | rfl | rfl | rfl | rfl | rfl | rfl | rfl | rfl | rfl | rfl <;> rfl
theorem zb0 : nI 0 = zb False := rfl
theorem zb1 : nI 1 = zb True := rfl
theorem unl_f {p q : Prop} [Decidable p] [Decidable q] (h : ¬ p) : unlN p q = 2 := if_pos h
theorem unl_t {p q : Prop} [Decidable p] [Decidable q] (h : p) : unlN p q = if ¬ q then 3 else 0 := if_neg (fun z => z h)
theorem unl_c {p q p' q' : Prop} [Decidable p] [Decidable q] [Decidable p'] [Decidable q'] (h : p ↔ p') (h2 : p → (q ↔ q')) : unlN p q = unlN p' q' := by
  by_cases e : p
  · rw [unl_t e, unl_t (h.mp e)]
    by_cases e2 : q
    · rw [if_neg (fun z => z e2), if_neg (fun z => z ((h2 e).mp e2))]
    · rw [if_pos e2, if_pos (fun z => e2 ((h2 e).mpr z))]
  · rw [unl_f e, unl_f (fun z => e (h.mpr z))]
section Hou
variable {I : IT} {a : Nat} {H : HS}
theorem s_fillRef {K : Nat → Prop} (hR : HR I a H) (x y : Int32) (h : K (1000020 + refN 1 H x.toInt y.toInt 0 0)) : f_X1_refusalToFill a x y I K := by
  unfold f_X1_refusalToFill
  have kw := hR.1.1
  have e0 : refN 1 H x.toInt y.toInt 0 0 = if 0 ≤ x.toInt ∧ x.toInt < kc H.k then unlN (1 ≤ y.toInt ∧ y.toInt ≤ 16) (kvol H.k x.toInt.toNat + 2 * y.toInt ≤ kcap H.k x.toInt.toNat) else 1 := rfl
  rw [e0] at h
  refine s_has hR.1 x ?_
  simp only [zb_eq0]
  by_cases hx : 0 ≤ x.toInt ∧ x.toInt < kc H.k
  · rw [if_neg (fun z => z hx)]
    rw [if_pos hx] at h
    obtain ⟨k, k1, k2, k3⟩ := x_nat (x := x) hx.1
    rw [k3] at h hx
    subst k2
    have kk := kw.1
    have b := kw.2 k (by omega)
    have v := hR.kv (k := k) (by omega)
    simp (disch := omega) only [inr_n, ix_n, bnd, v.1, v.2.1]
    refine ⟨by omega, s_within (by decide) (by decide) ?_⟩
    by_cases hy : 1 ≤ y.toInt ∧ y.toInt ≤ 16
    · obtain ⟨m, m1, m2, m3⟩ := x_nat (x := y) (by omega)
      rw [m3] at h hy
      subst m2
      rw [m3, pk_mul, nI_add]
      simp (disch := omega) only [n_ltP]
      split
      · next q =>
        unfold f_X1_refusalToFill_b54
        rw [zb0]
        refine s_unless ?_
        rw [unl_c (p := ((1 : Nat) : Int) ≤ m ∧ (m : Int) ≤ ((16 : Nat) : Int)) (p' := (1 : Int) ≤ m ∧ (m : Int) ≤ 16) (q' := (kvol H.k k : Int) + 2 * m ≤ kcap H.k k) Iff.rfl (fun _ => ⟨False.elim, fun q2 => by omega⟩)]
        exact h
      · next q =>
        unfold f_X1_refusalToFill_b54
        have e1 : nI 1 = zb True := rfl
        rw [e1]
        refine s_unless ?_
        rw [unl_c (p := ((1 : Nat) : Int) ≤ m ∧ (m : Int) ≤ ((16 : Nat) : Int)) (p' := (1 : Int) ≤ m ∧ (m : Int) ≤ 16) (q' := (kvol H.k k : Int) + 2 * m ≤ kcap H.k k) Iff.rfl (fun _ => ⟨fun _ => by omega, fun _ => trivial⟩)]
        exact h
    · rw [unl_f hy] at h
      split
      · unfold f_X1_refusalToFill_b54
        rw [zb0]
        refine s_unless ?_
        rw [unl_f (show ¬ (((1 : Nat) : Int) ≤ y.toInt ∧ y.toInt ≤ ((16 : Nat) : Int)) from hy)]
        exact h
      · unfold f_X1_refusalToFill_b54
        rw [zb1]
        refine s_unless ?_
        rw [unl_f (show ¬ (((1 : Nat) : Int) ≤ y.toInt ∧ y.toInt ≤ ((16 : Nat) : Int)) from hy)]
        exact h
  · rw [if_pos hx]
    rw [if_neg hx] at h
    exact h
theorem s_refusal {K : Nat → Prop} (hR : HR I a H) {t : Nat} (hT : HT t H) (ht : t ≤ 8000) {v : Nat} (hv : v < 13) (x y z u : Int32) (h : K (1000020 + refN v H x.toInt y.toInt z.toInt u.toInt)) : f_X1_refusal a (1000000 + v) x y z u I K := by
  unfold f_X1_refusal
  have e : swmC (ix (nI (ordN (1000000 + v)))) = swmC v := by rw [ordN_at hv, ix_n (by omega)]
  rw [e]
  refine ⟨by rw [ordN_at hv, inr_n (by omega)]; exact hv, ?_⟩
  have kw := hR.1.1
  have ow := hR.2.1.1
  have lw := hR.2.2.1.1
  have t0 := hT
  obtain ⟨t1, t2, t3, t4, t5, t6, t7, t8, t9, t10, t11⟩ := hT
  have kw1 := kw.1
  have ow1 := ow.1
  have lw1 := lw.1
  rcases (show v = 0 ∨ v = 1 ∨ v = 2 ∨ v = 3 ∨ v = 4 ∨ v = 5 ∨ v = 6 ∨ v = 7 ∨ v = 8 ∨ v = 9 ∨ v = 10 ∨ v = 11 ∨ v = 12 by omega) with rfl | rfl | rfl | rfl | rfl | rfl | rfl | rfl | rfl | rfl | rfl | rfl | rfl
  · rw [if_pos (by decide)]
    refine s_within (by decide) (by decide) ?_
    rw [hR.kc]
    simp (disch := omega) only [n_leP]
    split
    · unfold f_X1_refusal_b95
      rw [← zb_f (p := kc H.k < 4) (by omega)]
      exact s_unless h
    · unfold f_X1_refusal_b95
      rw [← zb_t (p := kc H.k < 4) (by omega)]
      exact s_unless h
  · rw [if_neg (by decide), if_pos (by decide)]
    exact s_fillRef hR x y h
  · rw [if_neg (by decide), if_neg (by decide), if_pos (by decide)]
    have e0 : refN 2 H x.toInt y.toInt z.toInt u.toInt = if 0 ≤ x.toInt ∧ x.toInt < kc H.k then unlN (0 ≤ y.toInt ∧ y.toInt ≤ 5) True else 1 := rfl
    rw [e0] at h
    refine s_has hR.1 x ?_
    simp only [zb_eq0]
    by_cases hx : 0 ≤ x.toInt ∧ x.toInt < kc H.k
    · rw [if_neg (fun z => z hx)]
      rw [if_pos hx] at h
      refine s_within (by decide) (by decide) ?_
      rw [zb1]
      exact s_unless h
    · rw [if_pos hx]; rw [if_neg hx] at h; exact h
  · rw [if_neg (by decide), if_neg (by decide), if_neg (by decide), if_pos (by decide)]
    have e0 : refN 3 H x.toInt y.toInt z.toInt u.toInt = unlN ((0 ≤ x.toInt ∧ x.toInt ≤ 9) ∧ (1 ≤ y.toInt ∧ y.toInt ≤ 6) ∧ (60 ≤ z.toInt ∧ z.toInt ≤ 100) ∧ (1 ≤ u.toInt ∧ u.toInt ≤ 9)) (oc H.o < 10) := rfl
    rw [e0] at h
    have fin : ∀ (p : Prop) [Decidable p], (p ↔ ((0 ≤ x.toInt ∧ x.toInt ≤ 9) ∧ (1 ≤ y.toInt ∧ y.toInt ≤ 6) ∧ (60 ≤ z.toInt ∧ z.toInt ≤ 100) ∧ (1 ≤ u.toInt ∧ u.toInt ≤ 9))) → f_X1_refusal_b182 a (1000000 + 3) x y z u I K (zb p) := by
      intro p _ hp
      unfold f_X1_refusal_b182
      rw [hR.oc]
      simp (disch := omega) only [n_leP]
      split
      · unfold f_X1_refusal_b199
        rw [← zb_f (p := oc H.o < 10) (by omega)]
        refine s_unless ?_
        rw [unl_c hp (fun _ => Iff.rfl)]
        exact h
      · unfold f_X1_refusal_b199
        rw [← zb_t (p := oc H.o < 10) (by omega)]
        refine s_unless ?_
        rw [unl_c hp (fun _ => Iff.rfl)]
        exact h
    have finF := fun q => fin False ⟨False.elim, q⟩
    have finT := fun q => fin True ⟨q, fun _ => trivial⟩
    rw [← zb0] at finF
    rw [← zb1] at finT
    refine s_within (by decide) (by decide) ?_
    simp only [zb_eq0]
    split
    · next q => unfold f_X1_refusal_b181; exact finF (fun r => q ⟨by omega, by omega⟩)
    · next q1 =>
      refine s_within (by decide) (by decide) ?_
      simp only [zb_eq0]
      split
      · next q => unfold f_X1_refusal_b181; exact finF (fun r => q ⟨by omega, by omega⟩)
      · next q2 =>
        refine s_within (by decide) (by decide) ?_
        simp only [zb_eq0]
        split
        · next q => unfold f_X1_refusal_b181; exact finF (fun r => q ⟨by omega, by omega⟩)
        · next q3 =>
          refine s_within (by decide) (by decide) ?_
          simp only [zb_eq0]
          split
          · next q => unfold f_X1_refusal_b181; exact finF (fun r => q ⟨by omega, by omega⟩)
          · next q4 => exact finT (fun _ => by omega)
  · rw [if_neg (by decide), if_neg (by decide), if_neg (by decide), if_neg (by decide), if_pos (by decide)]
    have e0 : refN 4 H x.toInt y.toInt z.toInt u.toInt = if findO H.o x.toInt = none then 4 else 0 := rfl
    rw [e0] at h
    refine s_find hR.2.1 x ?_
    have e1 := optI_m1 (r := findO H.o x.toInt) (fun j e => by have := firstN_lt e; omega)
    simp only [e1]
    split
    · next q => rw [if_pos q] at h; exact h
    · next q => rw [if_neg q] at h; exact h
  · rw [if_neg (by decide), if_neg (by decide), if_neg (by decide), if_neg (by decide), if_neg (by decide), if_pos (by decide)]
    refine s_can hR t0 ?_
    rw [zb1]
    exact s_unless h
  · rw [if_neg (by decide), if_neg (by decide), if_neg (by decide), if_neg (by decide), if_neg (by decide), if_neg (by decide), if_pos (by decide)]
    refine s_within (by decide) (by decide) ?_
    rw [hR.sc 3, n_sub t1]
    simp (disch := omega) only [nx_lt]
    split
    · unfold f_X1_refusal_b257
      rw [← zb_f (p := x.toInt + H.s 3 ≤ 20) (by omega)]
      exact s_unless h
    · unfold f_X1_refusal_b257
      rw [← zb_t (p := x.toInt + H.s 3 ≤ 20) (by omega)]
      exact s_unless h
  · rw [if_neg (by decide), if_neg (by decide), if_neg (by decide), if_neg (by decide), if_neg (by decide), if_neg (by decide), if_neg (by decide), if_pos (by decide)]
    refine s_within (by decide) (by decide) ?_
    rw [hR.sc 4]
    simp (disch := omega) only [nx_lt]
    split
    · unfold f_X1_refusal_b281
      rw [← zb_f (p := x.toInt ≤ H.s 4) (by omega)]
      exact s_unless h
    · unfold f_X1_refusal_b281
      rw [← zb_t (p := x.toInt ≤ H.s 4) (by omega)]
      exact s_unless h
  · rw [if_neg (by decide), if_neg (by decide), if_neg (by decide), if_neg (by decide), if_neg (by decide), if_neg (by decide), if_neg (by decide), if_neg (by decide), if_pos (by decide)]
    refine s_within (by decide) (by decide) ?_
    rw [zb1]
    exact s_unless h
  · rw [if_neg (by decide), if_neg (by decide), if_neg (by decide), if_neg (by decide), if_neg (by decide), if_neg (by decide), if_neg (by decide), if_neg (by decide), if_neg (by decide), if_pos (by decide)]
    refine s_within (by decide) (by decide) ?_
    rw [zb1]
    exact s_unless h
  · rw [if_neg (by decide), if_neg (by decide), if_neg (by decide), if_neg (by decide), if_neg (by decide), if_neg (by decide), if_neg (by decide), if_neg (by decide), if_neg (by decide), if_neg (by decide), if_pos (by decide)]
    refine s_within (by decide) (by decide) ?_
    rw [zb1]
    exact s_unless h
  · rw [if_neg (by decide), if_neg (by decide), if_neg (by decide), if_neg (by decide), if_neg (by decide), if_neg (by decide), if_neg (by decide), if_neg (by decide), if_neg (by decide), if_neg (by decide), if_neg (by decide), if_neg (by decide)]
    exact h
  · rw [if_neg (by decide), if_neg (by decide), if_neg (by decide), if_neg (by decide), if_neg (by decide), if_neg (by decide), if_neg (by decide), if_neg (by decide), if_neg (by decide), if_neg (by decide), if_neg (by decide), if_pos (by decide)]
    rw [hR.lc]
    simp (disch := omega) only [n_leP]
    split
    · unfold f_X1_refusal_b327
      rw [← zb_f (p := lc H.l < 14) (by omega), zb1]
      exact s_unless h
    · unfold f_X1_refusal_b327
      have r := @s_unless I K True (lc H.l < 14) _ _ h
      rw [zb_t (p := lc H.l < 14) (by omega)] at r
      exact r
end Hou
