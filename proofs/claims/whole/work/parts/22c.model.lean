section M
variable {I : IT} {H : HS}
theorem m_cup {K : Int32 → IT → Prop} (hM : HM (I 191) H) (w : HW H) (x y z u : Int32) (h : MK I H 9 x y z u K) : f_X9_prices (nI 9) x I K := by
  have e0 : refN 9 H x.toInt y.toInt z.toInt u.toInt = unlN (1 ≤ x.toInt ∧ x.toInt ≤ 80) True := rfl
  unfold f_X9_prices
  refine m_in (by decide) (by decide) ?_
  simp only [zb_eq0]
  have h9 : I 191 9 = nI (H.s 8) := hM.2.2.2.2.2.2.2.2.1
  split
  · next q => exact h.no (by rw [e0, unl_f (fun z => q ⟨by omega, by omega⟩)]) (by decide)
  · next q =>
    have q' : 1 ≤ x.toInt ∧ x.toInt ≤ 80 := by omega
    obtain ⟨x1, x2, x3⟩ := x_ix (x := x) (by omega)
    simp (disch := omega) only [inr_n, ix_n]
    rw [h9, wr_p, wr_p]
    have hq : ∀ q, q ≠ 9 → (up2 (up2 I 190 4 (nI (H.s 8))) 191 9 x) 191 q = I 191 q := fun q a => by rw [up2_nej a, up2_nea (by decide)]
    refine ⟨by omega, h.2 (by rw [e0, unl_t q', if_neg (fun z => z trivial)]) _ ((Mod.rf.s _).r (by omega) _) ⟨hM.1.same w.1 (hq _ (by omega)) (fun q a b => hq q (by omega)), hM.2.1.same w.2.1 (hq _ (by omega)) (hq _ (by omega)) (fun q a b => hq q (by omega)), hM.2.2.1.same w.2.2 (hq _ (by omega)) (fun q a b => hq q (by omega)) (hq _ (by omega)), hM.2.2.2.ss 8 (ix x) 9 (by omega) (by rw [up2_same]; exact x1) (fun q a b _ _ => hq q a)⟩ ?_⟩
    rw [up2_nea (by decide), up2_same]; rfl
theorem m_litre {K : Int32 → IT → Prop} (hM : HM (I 191) H) (w : HW H) (x y z u : Int32) (h : MK I H 10 x y z u K) : f_X9_prices (nI 10) x I K := by
  have e0 : refN 10 H x.toInt y.toInt z.toInt u.toInt = unlN (1 ≤ x.toInt ∧ x.toInt ≤ 80) True := rfl
  unfold f_X9_prices
  refine m_in (by decide) (by decide) ?_
  simp only [zb_eq0]
  have h9 : I 191 10 = nI (H.s 9) := hM.2.2.2.2.2.2.2.2.2.1
  split
  · next q => exact h.no (by rw [e0, unl_f (fun z => q ⟨by omega, by omega⟩)]) (by decide)
  · next q =>
    have q' : 1 ≤ x.toInt ∧ x.toInt ≤ 80 := by omega
    obtain ⟨x1, x2, x3⟩ := x_ix (x := x) (by omega)
    simp (disch := omega) only [inr_n, ix_n]
    rw [h9, wr_p, wr_p]
    have hq : ∀ q, q ≠ 10 → (up2 (up2 I 190 4 (nI (H.s 9))) 191 10 x) 191 q = I 191 q := fun q a => by rw [up2_nej a, up2_nea (by decide)]
    refine ⟨by omega, h.2 (by rw [e0, unl_t q', if_neg (fun z => z trivial)]) _ ((Mod.rf.s _).r (by omega) _) ⟨hM.1.same w.1 (hq _ (by omega)) (fun q a b => hq q (by omega)), hM.2.1.same w.2.1 (hq _ (by omega)) (hq _ (by omega)) (fun q a b => hq q (by omega)), hM.2.2.1.same w.2.2 (hq _ (by omega)) (fun q a b => hq q (by omega)) (hq _ (by omega)), hM.2.2.2.ss 9 (ix x) 10 (by omega) (by rw [up2_same]; exact x1) (fun q a b _ _ => hq q a)⟩ ?_⟩
    rw [up2_nea (by decide), up2_same]; rfl
theorem m_earns {K : IT → Prop} {a m p q : Nat} (ha : a < 103) (h12 : I 191 12 = nI p) (hc : I 191 a = nI q) (hne : a ≠ 12) (h : K (up2 (up2 I 191 12 (nI (p + m))) 191 a (nI (q + m)))) : f_X9_earns (nI a) (nI m) I K := by
  unfold f_X9_earns
  simp (disch := omega) only [wr_p, inr_n, ix_n]
  rw [h12, nI_add, up2_nej hne, hc, nI_add]
  exact ⟨by omega, h⟩
theorem m_sells {K : Int32 → IT → Prop} (hM : HM (I 191) H) (w : HW H) {t : Nat} (hT : HT t H) (ht : t ≤ 8000) (x y z u : Int32) (h : MK I H 7 x y z u K) : f_X9_sells x I K := by
  obtain ⟨t1, t2, t3, t4, t5, t6, t7, t8, t9, t10, t11⟩ := hT
  have e0 : refN 7 H x.toInt y.toInt z.toInt u.toInt = unlN (1 ≤ x.toInt ∧ x.toInt ≤ 80) (x.toInt ≤ H.s 4) := rfl
  unfold f_X9_sells
  refine m_in (by decide) (by decide) ?_
  simp only [zb_eq0]
  have h5 : I 191 5 = nI (H.s 4) := hM.2.2.2.2.1
  have h10 : I 191 10 = nI (H.s 9) := hM.2.2.2.2.2.2.2.2.2.1
  obtain ⟨l1, l2, l3, l4, l5⟩ := hM.2.2.1
  split
  · next q => exact h.no (by rw [e0, unl_f (fun z => q ⟨by omega, by omega⟩)]) (by decide)
  · next q =>
    have q' : 1 ≤ x.toInt ∧ x.toInt ≤ 80 := by omega
    obtain ⟨x1, x2, x3⟩ := x_ix (x := x) (by omega)
    rw [h5]
    simp (disch := omega) only [xn_le]
    split
    · next r =>
      have hx : nI (H.s 4) - x = nI (H.s 4 - ix x) := by
        have := n_sub (a := H.s 4) (b := ix x) (by omega)
        rw [← x1] at this; exact this
      have hm : x * nI (H.s 9) = nI (ix x * H.s 9) := by
        have := pk_mul (a := ix x) (b := H.s 9)
        rw [← x1] at this; exact this
      rw [hx, wr_p, wr_p, up2_nej (show 10 ≠ 5 by decide), h10, hm, up2_same]
      refine m_earns (p := lpr H.l) (q := lst H.l) (by omega) ?_ ?_ (by decide) ?_
      · rw [up2_nea (by decide), up2_nej (by decide)]; exact l1
      · rw [up2_nea (by decide), up2_nej (by decide)]; exact l4
      · have hq : ∀ q, q ≠ 5 → q ≠ 12 → q ≠ 18 → (up2 (up2 (up2 (up2 I 191 5 (nI (H.s 4 - ix x))) 190 4 (nI (ix x * H.s 9))) 191 12 (nI (lpr H.l + ix x * H.s 9))) 191 18 (nI (lst H.l + ix x * H.s 9))) 191 q = I 191 q := fun q a b c => by rw [up2_nej c, up2_nej b, up2_nea (by decide), up2_nej a]
        refine h.2 (by rw [e0, unl_t q', if_neg (by omega)]) _ ((((Mod.rf.r (by omega) _).s _).r (by omega) _).r (by omega) _) ⟨hM.1.same w.1 (hq _ (by omega) (by omega) (by omega)) (fun q a b => hq q (by omega) (by omega) (by omega)), hM.2.1.same w.2.1 (hq _ (by omega) (by omega) (by omega)) (hq _ (by omega) (by omega) (by omega)) (fun q a b => hq q (by omega) (by omega) (by omega)), ⟨?_, ?_, ?_, ?_, fun j hj => ?_⟩, hM.2.2.2.ss 4 (H.s 4 - ix x) 5 (by omega) ?_ (fun q a b c d => ?_)⟩ ?_
        · rw [up2_nej (by decide), up2_same]; rfl
        · rw [hq 13 (by decide) (by decide) (by decide)]; exact l2
        · rw [hq 17 (by decide) (by decide) (by decide)]; exact l3
        · rw [up2_same]; rfl
        · rw [hq _ (by omega) (by omega) (by omega)]; exact l5 j hj
        · rw [up2_nej (by decide), up2_nej (by decide), up2_nea (by decide), up2_same]
        · exact hq q a (by omega) (by omega)
        · rw [up2_nea (by decide), up2_nea (by decide), up2_same]; rfl
    · next r => exact h.no (by rw [e0, unl_t q', if_pos (by omega)]) (by decide)
end M
