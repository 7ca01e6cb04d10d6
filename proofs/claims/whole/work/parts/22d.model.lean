section M
variable {I : IT} {H : HS}
theorem m_closes {K : Int32 → IT → Prop} (hM : HM (I 191) H) (w : HW H) (x y z u : Int32) (h : MK I H 12 x y z u K) : f_X9_closes I K := by
  have e0 : refN 12 H x.toInt y.toInt z.toInt u.toInt = unlN True (lc H.l < 14) := rfl
  have w1 := w.2.2.1
  obtain ⟨l1, l2, l3, l4, l5⟩ := hM.2.2.1
  unfold f_X9_closes
  rw [l2]
  simp (disch := omega) only [n_eqP]
  split
  · next q => exact h.no (by rw [e0, unl_t trivial, if_pos (by omega)]) (by decide)
  · next q =>
    rw [wr_p, l1]
    rw [show (up2 I 190 4 (nI (lpr H.l))) 191 13 = nI (lc H.l) by rw [up2_nea (by decide)]; exact l2]
    rw [nI_add, inr_n (by omega), ix_n (by omega), up2_same, wr_p, wr_p, wr_p]
    refine ⟨by omega, ?_⟩
    rw [show (up2 (up2 I 190 4 (nI (lpr H.l))) 191 (19 + lc H.l) (nI (lpr H.l))) 191 13 = nI (lc H.l) by rw [up2_nej (by omega), up2_nea (by decide)]; exact l2, nI_add]
    have hq : ∀ q, q ≠ 19 + lc H.l → q ≠ 13 → q ≠ 12 → (up2 (up2 (up2 (up2 I 190 4 (nI (lpr H.l))) 191 (19 + lc H.l) (nI (lpr H.l))) 191 13 (nI (lc H.l + 1))) 191 12 (nI 0)) 191 q = I 191 q := fun q a b c => by rw [up2_nej c, up2_nej b, up2_nej a, up2_nea (by decide)]
    refine h.2 (by rw [e0, unl_t trivial, if_neg (by omega)]) _ ((((Mod.rf.s _).r (by omega) _).r (by omega) _).r (by omega) _) ⟨hM.1.same w.1 (hq _ (by omega) (by omega) (by omega)) (fun q a b => hq q (by omega) (by omega) (by omega)), hM.2.1.same w.2.1 (hq _ (by omega) (by omega) (by omega)) (hq _ (by omega) (by omega) (by omega)) (fun q a b => hq q (by omega) (by omega) (by omega)), ⟨?_, ?_, ?_, ?_, fun j hj => ?_⟩, hM.2.2.2.same (fun q a b => hq q (by omega) (by omega) (by omega)) (fun q a b => hq q (by omega) (by omega) (by omega))⟩ ?_
    · exact up2_same
    · rw [up2_nej (by decide), up2_same]; rfl
    · rw [hq 17 (by omega) (by omega) (by omega)]; exact l3
    · rw [hq 18 (by omega) (by omega) (by omega)]; exact l4
    · have hj : j < lc H.l + 1 := hj
      show _ = nI (setN (lin H.l) (lc H.l) (lpr H.l) j)
      by_cases e : j = lc H.l
      · subst e; rw [up2_nej (by omega), up2_nej (by omega), up2_same, setN_at]
      · rw [hq _ (by omega) (by omega) (by omega), setN_ne e]; exact l5 j (by omega)
    · rw [up2_nea (by decide), up2_nea (by decide), up2_nea (by decide), up2_same]; rfl
theorem m_accepts {K : Int32 → IT → Prop} (hM : HM (I 191) H) (w : HW H) (x y z u : Int32) (h : MK I H 3 x y z u K) : f_X9_accepts x y z u I K := by
  have e0 : refN 3 H x.toInt y.toInt z.toInt u.toInt = unlN ((0 ≤ x.toInt ∧ x.toInt ≤ 9) ∧ (1 ≤ y.toInt ∧ y.toInt ≤ 6) ∧ (60 ≤ z.toInt ∧ z.toInt ≤ 100) ∧ (1 ≤ u.toInt ∧ u.toInt ≤ 9)) (oc H.o < 10) := rfl
  have w1 := w.2.1.1
  obtain ⟨o1, o2, T, hT, hv⟩ := hM.2.1
  have no : ¬ ((0 ≤ x.toInt ∧ x.toInt ≤ 9) ∧ (1 ≤ y.toInt ∧ y.toInt ≤ 6) ∧ (60 ≤ z.toInt ∧ z.toInt ≤ 100) ∧ (1 ≤ u.toInt ∧ u.toInt ≤ 9)) → K (nI 2) I := fun q => h.no (by rw [e0, unl_f q]) (by decide)
  unfold f_X9_accepts
  refine m_in (by decide) (by decide) ?_
  simp only [zb_eq0]
  split
  · next q => exact no (fun r => q ⟨by omega, by omega⟩)
  · next q1 =>
    refine m_in (by decide) (by decide) ?_
    simp only [zb_eq0]
    split
    · next q => exact no (fun r => q ⟨by omega, by omega⟩)
    · next q2 =>
      refine m_in (by decide) (by decide) ?_
      simp only [zb_eq0]
      split
      · next q => exact no (fun r => q ⟨by omega, by omega⟩)
      · next q3 =>
        refine m_in (by decide) (by decide) ?_
        simp only [zb_eq0]
        split
        · next q => exact no (fun r => q ⟨by omega, by omega⟩)
        · next q4 =>
          have yes : ((0 ≤ x.toInt ∧ x.toInt ≤ 9) ∧ (1 ≤ y.toInt ∧ y.toInt ≤ 6) ∧ (60 ≤ z.toInt ∧ z.toInt ≤ 100) ∧ (1 ≤ u.toInt ∧ u.toInt ≤ 9)) := by omega
          rw [o1]
          have hz := n_eqP (a := oc H.o) (b := 10) (by omega) (by omega)
          simp only [hz]
          split
          · next r => exact h.no (by rw [e0, unl_t yes, if_pos (by omega)]) (by decide)
          · next r =>
            obtain ⟨x1, x2, x3⟩ := x_ix (x := x) (by omega)
            obtain ⟨y1, y2, y3⟩ := x_ix (x := y) (by omega)
            obtain ⟨z1, z2, z3⟩ := x_ix (x := z) (by omega)
            obtain ⟨u1, u2, u3⟩ := x_ix (x := u) (by omega)
            simp (disch := omega) only [pk_mul, nI_add, bnd_p, wr_p, o2, inr_n, ix_n, up2_same]
            refine ⟨by omega, by omega, by omega, by omega, by omega, ?_⟩
            simp (disch := first | omega | decide) only [up2_nej, up2_nea, o1, o2, nI_add]
            refine h.2 (by rw [e0, unl_t yes, if_neg (by omega)]) _ (((((((((Mod.rf.s _).r (by omega) _).r (by omega) _).r (by omega) _).r (by omega) _).r (by omega) _).r (by omega) _).r (by omega) _)) ?_ ?_
            · generalize hJ : up2 (up2 (up2 (up2 (up2 (up2 (up2 (up2 I 190 4 (nI (onx H.o))) 191 (53 + 5 * oc H.o + 0) (nI (onx H.o))) 191 (53 + 5 * oc H.o + 1) x) 191 (53 + 5 * oc H.o + 2) y) 191 (53 + 5 * oc H.o + 3) z) 191 (53 + 5 * oc H.o + 4) u) 191 2 (nI (oc H.o + 1))) 191 3 (nI (onx H.o + 1)) = J
              have hq : ∀ q, q ≠ 2 → q ≠ 3 → (q < 53 + 5 * oc H.o ∨ 53 + 5 * oc H.o + 5 ≤ q) → J 191 q = I 191 q := fun q a b c => by
                subst hJ
                rw [up2_nej b, up2_nej a, up2_nej (by omega), up2_nej (by omega), up2_nej (by omega), up2_nej (by omega), up2_nej (by omega), up2_nea (by decide)]
              refine ⟨hM.1.same w.1 (hq _ (by omega) (by omega) (by omega)) (fun q a b => hq q (by omega) (by omega) (by omega)), ⟨?_, ?_, addT T (oc H.o) (onx H.o) (ix x) (ix y) (ix z) (ix u), hT.add w.2.1 _ _ _ _, fun i hi f hf => ?_⟩, hM.2.2.1.same w.2.2 (hq _ (by omega) (by omega) (by omega)) (fun q a b => hq q (by omega) (by omega) (by omega)) (hq _ (by omega) (by omega) (by omega)), hM.2.2.2.same (fun q a b => hq q (by omega) (by omega) (by omega)) (fun q a b => hq q (by omega) (by omega) (by omega))⟩
              · subst hJ; rw [up2_nej (by decide), up2_same]; rfl
              · subst hJ; rw [up2_same]; rfl
              · have hi : i < oc H.o + 1 := hi
                by_cases e : i = oc H.o
                · subst e
                  subst hJ
                  unfold addT
                  simp only [if_true]
                  rcases (show f = 0 ∨ f = 1 ∨ f = 2 ∨ f = 3 ∨ f = 4 by omega) with rfl | rfl | rfl | rfl | rfl
                  · rw [up2_nej (by omega), up2_nej (by omega), up2_nej (by omega), up2_nej (by omega), up2_nej (by omega), up2_nej (by omega), up2_same]; rfl
                  · rw [up2_nej (by omega), up2_nej (by omega), up2_nej (by omega), up2_nej (by omega), up2_nej (by omega), up2_same]; exact x1
                  · rw [up2_nej (by omega), up2_nej (by omega), up2_nej (by omega), up2_nej (by omega), up2_same]; exact y1
                  · rw [up2_nej (by omega), up2_nej (by omega), up2_nej (by omega), up2_same]; exact z1
                  · rw [up2_nej (by omega), up2_nej (by omega), up2_same]; exact u1
                · rw [hq _ (by omega) (by omega) (by omega)]
                  have : addT T (oc H.o) (onx H.o) (ix x) (ix y) (ix z) (ix u) f i = T f i := by unfold addT; rw [if_neg e]
                  rw [this]
                  exact hv i (by omega) f hf
            · simp (disch := decide) only [up2_nea, up2_same]; rfl
theorem m_find {K : Int32 → Prop} {T : Nat → Nat → Nat} {n : Nat} (h2 : I 191 2 = nI n) (hn : n ≤ 10) (hv : ∀ i, i < n → I 191 (53 + 5 * i) = nI (T 0 i)) (hb : ∀ i, i < n → T 0 i < 2147483648) (x : Int32) (h : K (optI (fndT T n x.toInt))) : f_X9_find x I K := by
  have loop : ∀ f j, j ≤ n → n - j < f → (∀ i, i < j → ¬ (T 0 i : Int) = x.toInt) → f_X9_find_b2 x I K f (nI j) := by
    intro f
    induction f with
    | zero => intro j _ hn; omega
    | succ f ih =>
      intro j hj hf hno
      rw [f_X9_find_b2, h2]
      simp (disch := omega) only [n_leP]
      by_cases e : j = n
      · rw [if_pos (by omega)]
        have e2 : fndT T n x.toInt = none := firstN_none (fun i hi => hno i (by omega))
        rw [e2] at h; exact h
      · rw [if_neg (by omega)]
        refine m_o (by omega) (by omega) ?_
        have b := hb j (by omega)
        rw [Nat.add_zero, hv j (by omega)]
        by_cases q : (T 0 j : Int) = x.toInt
        · rw [if_pos (by rw [i32_eq, nI_toInt (by omega)]; exact q)]
          have e2 : fndT T n x.toInt = some j := firstN_hit (by omega) q hno
          rw [e2] at h; exact h
        · rw [if_neg (by rw [i32_eq, nI_toInt (by omega)]; exact q), bnd_p, nI_add]
          refine ih (j + 1) (by omega) (by omega) (fun i hi => ?_)
          by_cases e3 : i = j
          · rw [e3]; exact q
          · exact hno i (by omega)
  exact loop 4096 0 (Nat.zero_le _) (by omega) (fun i hi => by omega)
theorem m_isAhead {K : Int32 → Prop} {T : Nat → Nat → Nat} {n : Nat} (hn : n ≤ 10) (hv : ∀ i, i < n → ∀ f, f < 5 → I 191 (53 + 5 * i + f) = nI (T f i)) (hb : ∀ i, i < n → T 0 i < 2147483648 ∧ T 4 i ≤ 9) {i j : Nat} (hi : i < n) (hj : j < n) (h : K (zb (aheadO T i j))) : f_X9_isAhead (nI i) (nI j) I K := by
  have bi := hb i hi
  have bj := hb j hj
  unfold f_X9_isAhead
  refine m_o (by omega) (by omega) ?_
  refine m_o (by omega) (by omega) ?_
  rw [hv i hi 4 (by omega), hv j hj 4 (by omega)]
  simp (disch := omega) only [n_ltP, n_eqP]
  split
  · next q => rw [zb_t (by unfold aheadO; omega)] at h; exact h
  · next q =>
    refine m_o (by omega) (by omega) ?_
    refine m_o (by omega) (by omega) ?_
    rw [hv i hi 4 (by omega), hv j hj 4 (by omega)]
    simp (disch := omega) only [n_eqP]
    split
    · next q2 =>
      refine m_o (by omega) (by omega) ?_
      refine m_o (by omega) (by omega) ?_
      rw [hv i hi 0 (by omega), hv j hj 0 (by omega)]
      simp (disch := omega) only [n_leP]
      split
      · next q3 => rw [zb_f (by unfold aheadO; omega)] at h; exact h
      · next q3 => rw [zb_t (by unfold aheadO; omega)] at h; exact h
    · next q2 => rw [zb_f (by unfold aheadO; omega)] at h; exact h
theorem m_rankOf {K : Int32 → Prop} {T : Nat → Nat → Nat} {n : Nat} (h2 : I 191 2 = nI n) (hn : n ≤ 10) (hv : ∀ i, i < n → ∀ f, f < 5 → I 191 (53 + 5 * i + f) = nI (T f i)) (hb : ∀ i, i < n → T 0 i < 2147483648 ∧ T 4 i ≤ 9) {i : Nat} (hi : i < n) (h : K (nI (rnkO T n i))) : f_X9_rankOf (nI i) I K := by
  have loop : ∀ f j, j ≤ n → n - j < f → f_X9_rankOf_b4 (nI i) I K f (nI (cntN (fun o => aheadO T o i) j)) (nI j) := by
    intro f
    induction f with
    | zero => intro j _ hn; omega
    | succ f ih =>
      intro j hj hf
      rw [f_X9_rankOf_b4, h2]
      simp (disch := omega) only [n_leP]
      by_cases e : j = n
      · rw [if_pos (by omega), e]; exact h
      · rw [if_neg (by omega)]
        refine m_isAhead hn hv hb (by omega) hi ?_
        have h1 := ih (j + 1) (by omega) (by omega)
        simp only [cntN] at h1
        simp only [zb_eq0]
        unfold f_X9_rankOf_b29
        simp only [bnd_p, nI_add]
        by_cases q : aheadO T j i
        · rw [if_neg (fun z => z q)]; rw [if_pos q] at h1; exact h1
        · rw [if_pos q]; rw [if_neg q] at h1; exact h1
  exact loop 4096 0 (Nat.zero_le _) (by omega)
theorem m_ranked {K : Int32 → Prop} {T : Nat → Nat → Nat} {n : Nat} (h2 : I 191 2 = nI n) (hn : n ≤ 10) (hv : ∀ i, i < n → ∀ f, f < 5 → I 191 (53 + 5 * i + f) = nI (T f i)) (hb : ∀ i, i < n → T 0 i < 2147483648 ∧ T 4 i ≤ 9) (x : Int32) (h : K (optI (rkdT T n x.toInt))) : f_X9_ranked x I K := by
  have loop : ∀ f j, j ≤ n → n - j < f → (∀ i, i < j → ¬ (rnkO T n i : Int) = x.toInt) → f_X9_ranked_b2 x I K f (nI j) := by
    intro f
    induction f with
    | zero => intro j _ hn; omega
    | succ f ih =>
      intro j hj hf hno
      rw [f_X9_ranked_b2, h2]
      simp (disch := omega) only [n_leP]
      by_cases e : j = n
      · rw [if_pos (by omega)]
        have e2 : rkdT T n x.toInt = none := firstN_none (fun i hi => hno i (by omega))
        rw [e2] at h; exact h
      · rw [if_neg (by omega)]
        refine m_rankOf h2 hn hv hb (by omega) ?_
        have hr : rnkO T n j ≤ n := cntN_le _ _
        by_cases q : (rnkO T n j : Int) = x.toInt
        · rw [if_pos (by rw [i32_eq, nI_toInt (by omega)]; exact q)]
          have e2 : rkdT T n x.toInt = some j := firstN_hit (by omega) q hno
          rw [e2] at h; exact h
        · rw [if_neg (by rw [i32_eq, nI_toInt (by omega)]; exact q), bnd_p, nI_add]
          refine ih (j + 1) (by omega) (by omega) (fun i hi => ?_)
          by_cases e3 : i = j
          · rw [e3]; exact q
          · exact hno i (by omega)
  exact loop 4096 0 (Nat.zero_le _) (by omega) (fun i hi => by omega)
theorem m_goes {K : IT → Prop} {n d : Nat} (h2 : I 191 2 = nI n) (hn : n ≤ 10) (hd : d < n) (h : ∀ I', (∀ q, q ≠ 191 → I' q = I q) → I' 191 2 = nI (n - 1) → (∀ q, q ≠ 2 → (q < 53 + 5 * d ∨ 103 ≤ q) → I' 191 q = I 191 q) → (∀ q, 53 + 5 * d ≤ q → q < 53 + 5 * (n - 1) → I' 191 q = I 191 (q + 5)) → K I') : f_X9_goes (nI d) I K := by
  have zero : ∀ f j I', j ≤ 5 → 5 - j < f → (∀ q, q ≠ 191 → I' q = I q) → (∀ q, q ≠ 2 → (q < 53 + 5 * d ∨ 103 ≤ q) → I' 191 q = I 191 q) → (∀ q, 53 + 5 * d ≤ q → q < 53 + 5 * (n - 1) → I' 191 q = I 191 (q + 5)) → f_X9_goes_b48 (nI d) K f (nI (n - 1)) (nI j) I' := by
    intro f
    induction f with
    | zero => intro j _ _ hn; omega
    | succ f ih =>
      intro j I' hj hf a1 a2 a3
      rw [f_X9_goes_b48]
      simp (disch := omega) only [n_leP]
      by_cases e : j = 5
      · rw [if_pos (by omega), wr_p]
        refine h _ (fun q hq => by rw [up2_ne hq]; exact a1 q hq) up2_same (fun q b c => by rw [up2_nej b]; exact a2 q b c) (fun q b c => by rw [up2_nej (by omega)]; exact a3 q b c)
      · rw [if_neg (by omega)]
        simp (disch := omega) only [pk_mul, nI_add, inr_n, ix_n, wr_p, bnd_p]
        refine ⟨by omega, ih (j + 1) _ (by omega) (by omega) (fun q hq => by rw [up2_ne hq]; exact a1 q hq) (fun q b c => by rw [up2_nej (by omega)]; exact a2 q b c) (fun q b c => by rw [up2_nej (by omega)]; exact a3 q b c)⟩
  have loop : ∀ f j I', 5 * d ≤ j → j ≤ 5 * (n - 1) → 5 * (n - 1) - j < f → (∀ q, q ≠ 191 → I' q = I q) → (∀ q, (q < 53 + 5 * d ∨ 53 + j ≤ q) → I' 191 q = I 191 q) → (∀ q, 53 + 5 * d ≤ q → q < 53 + j → I' 191 q = I 191 (q + 5)) → f_X9_goes_b13 (nI d) (fun y0_0 y0_1 I0_ => f_X9_goes_b48 (nI d) K 4096 y0_0 y0_1 I0_) K f (nI (n - 1)) (nI j) I' := by
    intro f
    induction f with
    | zero => intro j _ _ _ hn; omega
    | succ f ih =>
      intro j I' hj0 hj hf a1 a2 a3
      rw [f_X9_goes_b13]
      simp (disch := omega) only [pk_mul, n_leP]
      by_cases e : j = 5 * (n - 1)
      · rw [if_pos (by omega)]
        exact zero 4096 0 I' (by omega) (by omega) a1 (fun q b c => a2 q (by omega)) (fun q b c => a3 q b (by omega))
      · rw [if_neg (by omega)]
        simp (disch := omega) only [nI_add, inr_n, ix_n, wr_p, bnd_p]
        refine ⟨by omega, by omega, ih (j + 1) _ (by omega) (by omega) (by omega) (fun q hq => by rw [up2_ne hq]; exact a1 q hq) (fun q c => by rw [up2_nej (by omega)]; exact a2 q (by omega)) (fun q b c => ?_)⟩
        by_cases e2 : q = 53 + j
        · subst e2; rw [up2_same]; exact a2 _ (by omega)
        · rw [up2_nej e2]; exact a3 q b (by omega)
  unfold f_X9_goes
  rw [h2]
  simp (disch := omega) only [pk_mul, n_sub, bnd_p]
  exact loop 4096 (5 * d) I (by omega) (by omega) (by omega) (fun _ _ => rfl) (fun _ _ => rfl) (fun q b c => by omega)
end M
