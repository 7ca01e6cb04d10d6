section M
variable {I : IT} {H : HS}
theorem withW0 (H : HS) : withW (H, 0) = H := by
  have e : setN H.s (gw (H, 0)) (H.s (gw (H, 0)) + 0) = H.s := by
    funext f
    by_cases c : f = gw (H, 0)
    · rw [c, setN_at]; rfl
    · rw [setN_ne c]
  show (⟨H.k, H.o, H.l, setN H.s (gw (H, 0)) (H.s (gw (H, 0)) + 0)⟩ : HS) = H
  rw [e]
theorem m_passes {K : Int32 → IT → Prop} (hM : HM (I 191) H) (w : HW H) (hs10 : H.s 10 ≤ 1) (x y z u : Int32) (h : MK I H 8 x y z u K) : f_X9_passes x I K := by
  have e0 : refN 8 H x.toInt y.toInt z.toInt u.toInt = unlN (1 ≤ x.toInt ∧ x.toInt ≤ 120) True := rfl
  unfold f_X9_passes
  refine m_in (by decide) (by decide) ?_
  simp only [zb_eq0]
  split
  · next q => exact h.no (by rw [e0, unl_f (fun z => q ⟨by omega, by omega⟩)]) (by decide)
  · next q =>
    have q' : 1 ≤ x.toInt ∧ x.toInt ≤ 120 := by omega
    obtain ⟨x1, x2, x3⟩ := x_ix (x := x) (by omega)
    rw [wr_p]
    have inner : ∀ (X : Int32 → IT → Prop) (v2 : Int32) f r j I' P, HM (I' 191) (withW P) → HW P.1 → P.1.s 10 ≤ 1 → I' 190 4 = nI P.2 → kc P.1.k = j + r → r < f → (∀ I2, HM (I2 191) (withW (itK r j P)) → HW (itK r j P).1 → (itK r j P).1.s 10 ≤ 1 → I2 190 4 = nI (itK r j P).2 → Mod I' I2 → X (v2 + nI 1) I2) → f_X9_passes_b36 x X K f v2 (nI j) I' := by
      intro X v2 f
      induction f with
      | zero => intro r _ _ _ _ _ _ _ _ hn; omega
      | succ f ih =>
        intro r j I' P c1 c2 c3 c4 c5 hf hX
        have kw1 := c2.1.1
        rw [f_X9_passes_b36]
        rw [show I' 191 1 = nI (kc P.1.k) from c1.1.1]
        simp (disch := omega) only [n_leP]
        cases r with
        | zero =>
          rw [if_pos (by omega), bnd_p]
          exact hX I' c1 c2 c3 c4 Mod.rf
        | succ r =>
          rw [if_neg (by omega)]
          refine m_heats c1 c2 c3 (by omega) fun I4 d1 d2 d3 => ?_
          rw [wr_p, bnd_p, nI_add, c4, nI_add]
          have hm : Mod I' (up2 I4 190 4 (nI (P.2 + if boiN P.1.k j = 1 ∧ kboi P.1.k j = 0 then 1 else 0))) := ⟨fun q a b => by rw [up2_ne a]; exact d2 q b, fun q a => by rw [up2_nea (by decide)]; exact d3 q (by omega), fun q a => by rw [up2_nej a, d2 190 (by decide)]⟩
          refine ih r (j + 1) _ (stepH P j) ?_ c2.step c3 up2_same (show kc P.1.k = j + 1 + r by omega) (by omega) fun I2 f1 f2 f3 f4 f5 => hX I2 f1 f2 f3 f4 (hm.tr f5)
          have e : (up2 I4 190 4 (nI (P.2 + if boiN P.1.k j = 1 ∧ kboi P.1.k j = 0 then 1 else 0))) 191 = I4 191 := up2_ne (by decide)
          rw [e]; exact d1
    have outer : ∀ f r I' P, r ≤ ix x → HM (I' 191) (withW P) → HW P.1 → P.1.s 10 ≤ 1 → I' 190 4 = nI P.2 → r < f → Mod I I' → (∀ I2, HM (I2 191) (withW (itM r P)) → I2 190 4 = nI (itM r P).2 → Mod I I2 → K (nI 0) I2) → f_X9_passes_b19 x K f (nI (ix x - r)) I' := by
      intro f
      induction f with
      | zero => intro r _ _ _ _ _ _ _ hn; omega
      | succ f ih =>
        intro r I' P hr c1 c2 c3 c4 hf hm hX
        rw [f_X9_passes_b19]
        have hle := n_leP (a := ix x) (b := ix x - r) x3 (by omega)
        rw [← x1] at hle
        simp only [hle]
        cases r with
        | zero =>
          rw [if_pos (by omega)]
          exact hX I' c1 c4 hm
        | succ r =>
          rw [if_neg (by omega), wr_p]
          have hrow : HM ((up2 I' 191 0 (I' 191 0 + nI 1)) 191) (withW P) := by
            have z : ∀ q, q ≠ 0 → (up2 I' 191 0 (I' 191 0 + nI 1)) 191 q = I' 191 q := fun q a => up2_nej a
            exact ⟨c1.1.same c2.1 (z _ (by omega)) (fun q a b => z q (by omega)), c1.2.1.same c2.2.1 (z _ (by omega)) (z _ (by omega)) (fun q a b => z q (by omega)), c1.2.2.1.same c2.2.2 (z _ (by omega)) (fun q a b => z q (by omega)) (z _ (by omega)), c1.2.2.2.same (fun q a b => z q (by omega)) (fun q a b => z q (by omega))⟩
          have kw1 := c2.1.1
          refine inner _ _ 4096 (kc P.1.k) 0 _ P hrow c2 c3 (by rw [up2_nea (by decide)]; exact c4) (by omega) (by omega) fun I2 d1 d2 d3 d4 d5 => ?_
          rw [nI_add, show ix x - (r + 1) + 1 = ix x - r by omega]
          exact ih r I2 _ (by omega) d1 d2 d3 d4 (by omega) ((hm.r (by omega) _).tr d5) fun I3 g1 g2 g3 => hX I3 g1 g2 g3
    have e1 : (up2 I 190 4 (nI 0)) 191 = I 191 := up2_ne (by decide)
    have := outer 4096 (ix x) (up2 I 190 4 (nI 0)) (H, 0) (Nat.le_refl _) (by rw [e1, withW0]; exact hM) w hs10 up2_same (by omega) (Mod.rf.s _) fun I2 g1 g2 g3 => h.2 (by rw [e0, unl_t q', if_neg (fun z => z trivial)]) I2 g3 g1 g2
    rw [Nat.sub_self] at this
    exact this
/-- one row onto another -/
theorem m_copies {K : IT → Prop} {a b : Nat} (ha : a < 12) (hb : b < 12) (hne : a ≠ b) (h : ∀ I', (∀ q, q ≠ 191 → I' q = I q) → (∀ j, j < 103 → I' 191 (103 * b + j) = I 191 (103 * a + j)) → (∀ q, (q < 103 * b ∨ 103 * b + 103 ≤ q) → I' 191 q = I 191 q) → K I') : f_X9_copies (nI a) (nI b) I K := by
  have loop : ∀ f j I', j ≤ 103 → 103 - j < f → (∀ q, q ≠ 191 → I' q = I q) → (∀ c, c < j → I' 191 (103 * b + c) = I 191 (103 * a + c)) → (∀ q, (q < 103 * b ∨ 103 * b + j ≤ q) → I' 191 q = I 191 q) → f_X9_copies_b2 (nI a) (nI b) K f (nI j) I' := by
    intro f
    induction f with
    | zero => intro j _ _ hn; omega
    | succ f ih =>
      intro j I' hj hf c1 c2 c3
      rw [f_X9_copies_b2]
      simp (disch := omega) only [n_leP]
      by_cases e : j = 103
      · rw [if_pos (by omega)]
        subst e
        exact h I' c1 c2 c3
      · rw [if_neg (by omega)]
        simp (disch := omega) only [pk_mul, nI_add, inr_n, ix_n, wr_p, bnd_p]
        refine ⟨by omega, by omega, ih (j + 1) _ (by omega) (by omega) (fun q hq => by rw [up2_ne hq]; exact c1 q hq) (fun c hc => ?_) (fun q hq => by rw [up2_nej (by omega)]; exact c3 q (by omega))⟩
        by_cases e2 : c = j
        · subst e2
          rw [up2_same]
          exact c3 _ (by omega)
        · rw [up2_nej (by omega)]; exact c2 c (by omega)
  exact loop 4096 0 I (by omega) (by omega) (fun _ _ => rfl) (fun c hc => by omega) (fun _ _ => rfl)
end M
