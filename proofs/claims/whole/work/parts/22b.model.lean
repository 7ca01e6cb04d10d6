section M
variable {I : IT} {H : HS}
/-- a scalar of the state, by the reference's own numbering -/
theorem SM.ss {r r' : Nat → Int32} {s : Nat → Nat} (h : SM r s) (f v j : Nat) (hj : j = f + 1 ∧ 4 ≤ f ∧ f ≤ 10 ∨ j = f + 3 ∧ 11 ≤ f ∧ f ≤ 13) (e : r' j = nI v) (e2 : ∀ q, q ≠ j → q < 17 → q ≠ 12 → q ≠ 13 → r' q = r q) : SM r' (setN s f v) := by
  obtain ⟨h1, h2, h3, h4, h5, h6, h7, h8, h9, h10, h11⟩ := h
  have one : ∀ g q, (q = g + 1 ∧ 4 ≤ g ∧ g ≤ 10 ∨ q = g + 3 ∧ 11 ≤ g ∧ g ≤ 13) → r q = nI (s g) → r' q = nI (setN s f v g) := by
    intro g q hq hg
    by_cases c : g = f
    · subst c
      rw [setN_at, show q = j by omega]; exact e
    · rw [setN_ne c, e2 q (by omega) (by omega) (by omega) (by omega)]; exact hg
  refine ⟨?_, one 4 5 (by omega) h2, one 5 6 (by omega) h3, one 6 7 (by omega) h4, one 7 8 (by omega) h5, one 8 9 (by omega) h6, one 9 10 (by omega) h7, one 10 11 (by omega) h8, one 11 14 (by omega) h9, one 12 15 (by omega) h10, one 13 16 (by omega) h11⟩
  rw [setN_ne (by omega), e2 4 (by omega) (by omega) (by omega) (by omega)]; exact h1
theorem SM.s3 {r r' : Nat → Int32} {s : Nat → Nat} (h : SM r s) (v : Nat) (e : r' 4 = nI (20 - v)) (e2 : ∀ q, q ≠ 4 → q < 17 → r' q = r q) : SM r' (setN s 3 v) := by
  obtain ⟨h1, h2, h3, h4, h5, h6, h7, h8, h9, h10, h11⟩ := h
  unfold SM
  rw [e2 5 (by omega) (by omega), e2 6 (by omega) (by omega), e2 7 (by omega) (by omega), e2 8 (by omega) (by omega), e2 9 (by omega) (by omega), e2 10 (by omega) (by omega), e2 11 (by omega) (by omega), e2 14 (by omega) (by omega), e2 15 (by omega) (by omega), e2 16 (by omega) (by omega), setN_at]
  refine ⟨e, ?_, ?_, ?_, ?_, ?_, ?_, ?_, ?_, ?_, ?_⟩ <;> (rw [setN_ne (by omega)]; assumption)
theorem m_turns {K : Int32 → IT → Prop} (hM : HM (I 191) H) (w : HW H) (x y z u : Int32) (h : MK I H 2 x y z u K) : f_X9_turns x y I K := by
  have kw1 := w.1.1
  have e0 : refN 2 H x.toInt y.toInt z.toInt u.toInt = if 0 ≤ x.toInt ∧ x.toInt < kc H.k then unlN (0 ≤ y.toInt ∧ y.toInt ≤ 5) True else 1 := rfl
  unfold f_X9_turns
  refine m_isKettle hM w x ?_
  simp only [zb_eq0]
  split
  · next q => exact h.no (by rw [e0, if_neg q]) (by decide)
  · next q =>
    have q' : 0 ≤ x.toInt ∧ x.toInt < kc H.k := by omega
    refine m_in (by decide) (by decide) ?_
    simp only [zb_eq0]
    split
    · next r => exact h.no (by rw [e0, if_pos q', unl_f (fun z => r ⟨by omega, by omega⟩)]) (by decide)
    · next r =>
      have r' : 0 ≤ y.toInt ∧ y.toInt ≤ 5 := by omega
      obtain ⟨x1, x2, x3⟩ := x_ix (x := x) (by omega)
      obtain ⟨y1, y2, y3⟩ := x_ix (x := y) (by omega)
      rw [x1]
      have hk := hM.1.2 (ix x) (by omega)
      refine m_k (by omega) (by omega) ?_
      rw [wr_p]
      refine m_set (by omega) (by omega) ?_
      refine h.2 (by rw [e0, if_pos q', unl_t r', if_neg (fun z => z trivial)]) _ ((Mod.rf.s _).r (by omega) _) ?_ ?_
      · have hq : ∀ q, q ≠ 33 + 5 * ix x + 3 → (up2 (up2 I 190 4 (I 191 (33 + 5 * ix x + 3))) 191 (33 + 5 * ix x + 3) y) 191 q = I 191 q := fun q a => by rw [up2_nej a, up2_nea (by decide)]
        refine ⟨⟨by rw [hq 1 (by omega)]; exact hM.1.1, fun k hk2 => ?_⟩, hM.2.1.same w.2.1 (hq _ (by omega)) (hq _ (by omega)) (fun q a b => hq q (by omega)), hM.2.2.1.same w.2.2 (hq _ (by omega)) (fun q a b => hq q (by omega)) (hq _ (by omega)), hM.2.2.2.same (fun q a b => hq q (by omega)) (fun q a b => hq q (by omega))⟩
        have hk2 : k < kc H.k := hk2
        show _ = nI (kcap H.k k) ∧ _ = nI (kvol H.k k) ∧ _ = nI (ktmp H.k k) ∧ _ = nI (setN (klev H.k) (ix x) (ix y) k) ∧ _ = nI (kboi H.k k)
        obtain ⟨g1, g2, g3, g4, g5⟩ := hM.1.2 k hk2
        refine ⟨by rw [hq _ (by omega)]; exact g1, by rw [hq _ (by omega)]; exact g2, by rw [hq _ (by omega)]; exact g3, ?_, by rw [hq _ (by omega)]; exact g5⟩
        by_cases e3 : k = ix x
        · subst e3; rw [up2_same, setN_at]; exact y1
        · rw [hq _ (by omega), setN_ne e3]; exact g4
      · rw [up2_nea (by decide), up2_same]; exact hk.2.2.2.1
theorem m_fills {K : Int32 → IT → Prop} (hM : HM (I 191) H) (w : HW H) (x y z u : Int32) (h : MK I H 1 x y z u K) : f_X9_fills x y I K := by
  have kw := w.1
  have kw1 := kw.1
  have e0 : refN 1 H x.toInt y.toInt z.toInt u.toInt = if 0 ≤ x.toInt ∧ x.toInt < kc H.k then unlN (1 ≤ y.toInt ∧ y.toInt ≤ 16) (kvol H.k x.toInt.toNat + 2 * y.toInt ≤ kcap H.k x.toInt.toNat) else 1 := rfl
  unfold f_X9_fills
  refine m_isKettle hM w x ?_
  simp only [zb_eq0]
  split
  · next q => exact h.no (by rw [e0, if_neg q]) (by decide)
  · next q =>
    have q' : 0 ≤ x.toInt ∧ x.toInt < kc H.k := by omega
    refine m_in (by decide) (by decide) ?_
    simp only [zb_eq0]
    split
    · next r => exact h.no (by rw [e0, if_pos q', unl_f (fun z => r ⟨by omega, by omega⟩)]) (by decide)
    · next r =>
      have r' : 1 ≤ y.toInt ∧ y.toInt ≤ 16 := by omega
      obtain ⟨x1, x2, x3⟩ := x_ix (x := x) (by omega)
      obtain ⟨y1, y2, y3⟩ := x_ix (x := y) (by omega)
      have hkk : ix x < kc H.k := by omega
      have bk := kw.2 (ix x) hkk
      obtain ⟨g1, g2, g3, g4, g5⟩ := hM.1.2 (ix x) hkk
      have hy : nI 2 * y = nI (2 * ix y) := by rw [y1, pk_mul, ix_n y3]
      have hxn : x.toInt.toNat = ix x := by omega
      rw [hxn] at e0
      rw [x1]
      refine m_k (by omega) (by omega) ?_
      rw [hy, bnd_p]
      refine m_k (by omega) (by omega) ?_
      rw [g2, Nat.add_zero, g1, nI_add]
      simp (disch := omega) only [n_leP]
      split
      · next c =>
        refine m_k (by omega) (by omega) ?_
        rw [g3]
        have hz := n_eq0 (a := kvol H.k (ix x) + 2 * ix y) (by omega)
        have ht := pourT_le (t := ktmp H.k (ix x)) (v := kvol H.k (ix x)) (m := 2 * ix y) (by omega) (by omega) (by omega)
        have hd : (nI 40 + (nI (ktmp H.k (ix x)) - nI 40) * nI (kvol H.k (ix x)) / nI (kvol H.k (ix x) + 2 * ix y)) = nI (40 + (ktmp H.k (ix x) - 40) * kvol H.k (ix x) / (kvol H.k (ix x) + 2 * ix y)) := by
          rw [n_sub (by omega), pk_mul, n_div (by have := Nat.mul_le_mul (show ktmp H.k (ix x) - 40 ≤ 160 by omega) (show kvol H.k (ix x) ≤ 32 by omega); omega) (by omega) (by omega), nI_add]
        refine ⟨by rw [hz]; omega, ?_⟩
        rw [hd, wr_p]
        refine m_set (by omega) (by omega) ?_
        refine m_set (by omega) (by omega) ?_
        rw [wr_p]
        rw [show (up2 I 190 4 (nI (40 + (ktmp H.k (ix x) - 40) * kvol H.k (ix x) / (kvol H.k (ix x) + 2 * ix y)))) 190 4 = nI (40 + (ktmp H.k (ix x) - 40) * kvol H.k (ix x) / (kvol H.k (ix x) + 2 * ix y)) from up2_same]
        generalize hX : (ktmp H.k (ix x) - 40) * kvol H.k (ix x) / (kvol H.k (ix x) + 2 * ix y) = X at *
        have h8 : (up2 (up2 (up2 I 190 4 (nI (40 + X))) 191 (33 + 5 * ix x + 2) (nI (40 + X))) 191 (33 + 5 * ix x + 1) (nI (kvol H.k (ix x) + 2 * ix y))) 191 8 = nI (H.s 7) := by
          rw [up2_nej (by omega), up2_nej (by omega), up2_nea (by decide)]; exact hM.2.2.2.2.2.2.2.1
        rw [h8, nI_add]
        refine h.2 (by rw [e0, if_pos q', unl_t r', if_neg (by omega)]) _ ((((Mod.rf.s _).r (by omega) _).r (by omega) _).r (by omega) _) ?_ ?_
        · have hq : ∀ q, q ≠ 33 + 5 * ix x + 2 → q ≠ 33 + 5 * ix x + 1 → q ≠ 8 → (up2 (up2 (up2 (up2 I 190 4 (nI (40 + X))) 191 (33 + 5 * ix x + 2) (nI (40 + X))) 191 (33 + 5 * ix x + 1) (nI (kvol H.k (ix x) + 2 * ix y))) 191 8 (nI (H.s 7 + 2 * ix y))) 191 q = I 191 q := fun q a b c => by rw [up2_nej c, up2_nej b, up2_nej a, up2_nea (by decide)]
          refine ⟨⟨by rw [hq 1 (by omega) (by omega) (by omega)]; exact hM.1.1, fun k hk2 => ?_⟩, hM.2.1.same w.2.1 (hq _ (by omega) (by omega) (by omega)) (hq _ (by omega) (by omega) (by omega)) (fun q a b => hq q (by omega) (by omega) (by omega)), hM.2.2.1.same w.2.2 (hq _ (by omega) (by omega) (by omega)) (fun q a b => hq q (by omega) (by omega) (by omega)) (hq _ (by omega) (by omega) (by omega)), hM.2.2.2.ss 7 _ 8 (by omega) up2_same (fun q a b _ _ => hq q (by omega) (by omega) a)⟩
          have hk2 : k < kc H.k := hk2
          show _ = nI (kcap H.k k) ∧ _ = nI (setN (kvol H.k) (ix x) (kvol H.k (ix x) + 2 * ix y) k) ∧ _ = nI (setN (ktmp H.k) (ix x) (40 + (ktmp H.k (ix x) - 40) * kvol H.k (ix x) / (kvol H.k (ix x) + 2 * ix y)) k) ∧ _ = nI (klev H.k k) ∧ _ = nI (kboi H.k k)
          obtain ⟨g1, g2, g3, g4, g5⟩ := hM.1.2 k hk2
          refine ⟨by rw [hq _ (by omega) (by omega) (by omega)]; exact g1, ?_, ?_, by rw [hq _ (by omega) (by omega) (by omega)]; exact g4, by rw [hq _ (by omega) (by omega) (by omega)]; exact g5⟩
          · by_cases e3 : k = ix x
            · subst e3; rw [up2_nej (by omega), up2_same, setN_at]
            · rw [hq _ (by omega) (by omega) (by omega), setN_ne e3]; exact g2
          · rw [hX]
            by_cases e3 : k = ix x
            · subst e3; rw [up2_nej (by omega), up2_nej (by omega), up2_same, setN_at]
            · rw [hq _ (by omega) (by omega) (by omega), setN_ne e3]; exact g3
        · rw [up2_nea (by decide), up2_nea (by decide), up2_nea (by decide), up2_same]
          show _ = nI (ktmp (pourK H.k (ix x) (2 * ix y)) (ix x))
          rw [← hX]
          simp only [pourK, ktmp_mk, setN_at]
      · next c => exact h.no (by rw [e0, if_pos q', unl_t r', if_pos (by omega)]) (by decide)
theorem m_washes {K : Int32 → IT → Prop} (hM : HM (I 191) H) (w : HW H) (hs3 : H.s 3 ≤ 20) (x y z u : Int32) (h : MK I H 6 x y z u K) : f_X9_washes x I K := by
  have e0 : refN 6 H x.toInt y.toInt z.toInt u.toInt = unlN (1 ≤ x.toInt ∧ x.toInt ≤ 20) (x.toInt + H.s 3 ≤ 20) := rfl
  unfold f_X9_washes
  refine m_in (by decide) (by decide) ?_
  simp only [zb_eq0]
  have h4 : I 191 4 = nI (20 - H.s 3) := hM.2.2.2.1
  split
  · next q => exact h.no (by rw [e0, unl_f (fun z => q ⟨by omega, by omega⟩)]) (by decide)
  · next q =>
    have q' : 1 ≤ x.toInt ∧ x.toInt ≤ 20 := by omega
    obtain ⟨x1, x2, x3⟩ := x_ix (x := x) (by omega)
    rw [h4]
    simp (disch := omega) only [xn_le]
    split
    · next r =>
      have hx : nI (20 - H.s 3) - x = nI (20 - (H.s 3 + ix x)) := by
        have := n_sub (a := 20 - H.s 3) (b := ix x) (by omega)
        rw [← x1] at this; rw [this]; congr 1; omega
      rw [hx, wr_p, wr_p, up2_same, n_sub (by omega)]
      have hq : ∀ v q, q ≠ 4 → (up2 (up2 I 191 4 (nI (20 - (H.s 3 + ix x)))) 190 4 v) 191 q = I 191 q := fun v q a => by rw [up2_nea (by decide), up2_nej a]
      refine h.2 (by rw [e0, unl_t q', if_neg (by omega)]) _ ((Mod.rf.r (by omega) _).s _) ⟨hM.1.same w.1 (hq _ _ (by omega)) (fun q a b => hq _ q (by omega)), hM.2.1.same w.2.1 (hq _ _ (by omega)) (hq _ _ (by omega)) (fun q a b => hq _ q (by omega)), hM.2.2.1.same w.2.2 (hq _ _ (by omega)) (fun q a b => hq _ q (by omega)) (hq _ _ (by omega)), hM.2.2.2.s3 (H.s 3 + ix x) (by rw [up2_nea (by decide), up2_same]) (fun q a b => hq _ q a)⟩ ?_
      rw [up2_same]
      show _ = nI (H.s 3 + ix x)
      congr 1; omega
    · next r => exact h.no (by rw [e0, unl_t q', if_pos (by omega)]) (by decide)
theorem m_attends {K : Int32 → IT → Prop} (hM : HM (I 191) H) (w : HW H) (x y z u : Int32) (hx : 0 ≤ x.toInt) (h : MK I H 11 x y z u K) : f_X9_attends x I K := by
  obtain ⟨x1, x2, x3⟩ := x_ix (x := x) hx
  have h11 : I 191 11 = nI (H.s 10) := hM.2.2.2.2.2.2.2.2.2.2.1
  have fin : ∀ v, v = (if ix x = 0 then 0 else 1) → f_X9_attends_b26 x K (nI v) (up2 I 190 4 (nI (H.s 10))) := by
    intro v hv
    unfold f_X9_attends_b26
    rw [wr_p]
    have hq : ∀ q, q ≠ 11 → (up2 (up2 I 190 4 (nI (H.s 10))) 191 11 (nI v)) 191 q = I 191 q := fun q a => by rw [up2_nej a, up2_nea (by decide)]
    refine h.2 rfl _ ((Mod.rf.s _).r (by omega) _) ⟨hM.1.same w.1 (hq _ (by omega)) (fun q a b => hq q (by omega)), hM.2.1.same w.2.1 (hq _ (by omega)) (hq _ (by omega)) (fun q a b => hq q (by omega)), hM.2.2.1.same w.2.2 (hq _ (by omega)) (fun q a b => hq q (by omega)) (hq _ (by omega)), ?_⟩ ?_
    · have := hM.2.2.2.ss (r' := (up2 (up2 I 190 4 (nI (H.s 10))) 191 11 (nI v)) 191) 10 v 11 (by omega) up2_same (fun q a b _ _ => hq q a)
      rw [hv] at this ⊢; exact this
    · rw [up2_nea (by decide), up2_same]; rfl
  unfold f_X9_attends
  rw [wr_p, h11]
  have hz := n_le0 (a := ix x) x3
  rw [← x1] at hz
  simp only [hz]
  split
  · next q => exact fin 0 (by rw [if_pos q])
  · next q => exact fin 1 (by rw [if_neg q])
end M
