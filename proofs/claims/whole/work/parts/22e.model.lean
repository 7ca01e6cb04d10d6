theorem suitK_min {S : KS} {cups mn : Nat} : ∀ {n b : Nat}, suitK S cups mn n = some b → 2 * mn - 1 < ktmp S b
  | 0, _, h => by cases h
  | n + 1, b, h => by
    have h2 : (if 2 * cups ≤ kvol S n ∧ suitT S cups mn n < ktmp S n then some n else suitK S cups mn n) = some b := h
    by_cases r : 2 * cups ≤ kvol S n ∧ suitT S cups mn n < ktmp S n
    · rw [if_pos r] at h2
      cases h2
      have r2 := r.2
      unfold suitT at r2
      cases e : suitK S cups mn n with
      | none => rw [e] at r2; exact r2
      | some c => rw [e] at r2; have := suitK_min e; dsimp only at r2; omega
    · rw [if_neg r] at h2; exact suitK_min h2
section M
variable {I : IT} {H : HS}
theorem m_pourer {K : Int32 → Prop} {S : KS} {T : Nat → Nat → Nat} (hM : KM (I 191) S) (w : KW S) {i : Nat} (hi : i < 10) (hv : ∀ f, f < 5 → I 191 (53 + 5 * i + f) = nI (T f i)) (b2 : T 2 i ≤ 6) (b3 : 60 ≤ T 3 i ∧ T 3 i ≤ 100) (h : K (optI (suitK S (T 2 i) (T 3 i) (kc S)))) : f_X9_pourer (nI i) I K := by
  have kw1 := w.1
  have loop : ∀ f j, j ≤ kc S → kc S - j < f → f_X9_pourer_b4 (nI i) I K f (optI (suitK S (T 2 i) (T 3 i) j)) (nI j) := by
    intro f
    induction f with
    | zero => intro j _ hn; omega
    | succ f ih =>
      intro j hj hf
      rw [f_X9_pourer_b4, hM.1]
      simp (disch := omega) only [n_leP]
      by_cases e : j = kc S
      · rw [if_pos (by omega), e]; exact h
      · rw [if_neg (by omega)]
        have bj := w.2 j (by omega)
        obtain ⟨g1, g2, g3, g4, g5⟩ := hM.2 j (by omega)
        have ih1 := ih (j + 1) (by omega) (by omega)
        have es : suitK S (T 2 i) (T 3 i) (j + 1) = if 2 * T 2 i ≤ kvol S j ∧ suitT S (T 2 i) (T 3 i) j < ktmp S j then some j else suitK S (T 2 i) (T 3 i) j := rfl
        have keep : ¬ (2 * T 2 i ≤ kvol S j ∧ suitT S (T 2 i) (T 3 i) j < ktmp S j) → f_X9_pourer_b83 (nI i) I (fun y0_0 y0_1 => f_X9_pourer_b4 (nI i) I K f y0_0 y0_1) K (optI (suitK S (T 2 i) (T 3 i) j)) (nI j) := by
          intro q
          rw [es, if_neg q] at ih1
          unfold f_X9_pourer_b83
          rw [bnd_p, nI_add]; exact ih1
        have take : (2 * T 2 i ≤ kvol S j ∧ suitT S (T 2 i) (T 3 i) j < ktmp S j) → f_X9_pourer_b79 (nI i) I (fun y0_0 y0_1 => f_X9_pourer_b4 (nI i) I K f y0_0 y0_1) K (nI j) := by
          intro q
          rw [es, if_pos q] at ih1
          unfold f_X9_pourer_b79
          rw [bnd_p, nI_add]; exact ih1
        have out : ¬ (2 * T 2 i ≤ kvol S j ∧ suitT S (T 2 i) (T 3 i) j < ktmp S j) → f_X9_pourer_b52 (nI i) I (fun y0_0 y0_1 => f_X9_pourer_b4 (nI i) I K f y0_0 y0_1) K (optI (suitK S (T 2 i) (T 3 i) j)) (nI j) := by
          intro q
          unfold f_X9_pourer_b52 f_X9_pourer_b53
          rw [if_pos (by decide)]; exact keep q
        have tmin : 2 * T 3 i - 1 ≤ suitT S (T 2 i) (T 3 i) j := by
          unfold suitT
          cases e3 : suitK S (T 2 i) (T 3 i) j with
          | none => exact Nat.le_refl _
          | some b => exact Nat.le_of_lt (suitK_min e3)
        refine m_k (by omega) (by omega) ?_
        refine m_o (by omega) (by omega) ?_
        rw [g2, hv 2 (by omega), pk_mul]
        simp (disch := omega) only [n_ltP]
        split
        · next q => exact out (by omega)
        · next q =>
          refine m_k (by omega) (by omega) ?_
          refine m_o (by omega) (by omega) ?_
          rw [g3, hv 3 (by omega), pk_mul]
          simp (disch := omega) only [n_ltP]
          split
          · next q2 => exact out (by omega)
          · next q2 =>
            unfold f_X9_pourer_b53
            rw [if_neg (by rw [one_eq0]; exact id)]
            cases e3 : suitK S (T 2 i) (T 3 i) j with
            | none =>
              have et : suitT S (T 2 i) (T 3 i) j = 2 * T 3 i - 1 := by unfold suitT; rw [e3]
              rw [optI_none, if_pos (by decide)]
              exact take ⟨by omega, by omega⟩
            | some b =>
              have et : suitT S (T 2 i) (T 3 i) j = ktmp S b := by unfold suitT; rw [e3]
              have hb := suitK_lt e3
              have bb := w.2 b (by omega)
              rw [e3, optI_some] at keep
              rw [optI_some]
              have hng := n_neg (a := b) (by omega)
              simp only [hng, if_false]
              refine m_k (by omega) (by omega) ?_
              refine m_k (by omega) (by omega) ?_
              rw [g3, (hM.2 b (by omega)).2.2.1]
              simp (disch := omega) only [n_leP]
              split
              · next q3 => exact keep (by omega)
              · next q3 => exact take ⟨by omega, by omega⟩
  exact loop 4096 0 (Nat.zero_le _) (by omega)
/-- the orders as the reference has them -/
theorem OM.fa {r : Nat → Int32} {S : OS} (h : OM r S) (w : OW S) : ∃ T, OT T S ∧ (∀ i, i < oc S → ∀ f, f < 5 → r (53 + 5 * i + f) = nI (T f i)) ∧ (∀ i, i < oc S → r (53 + 5 * i) = nI (T 0 i)) ∧ (∀ i, i < oc S → T 0 i < 2147483648) ∧ ∀ i, i < oc S → T 0 i < 2147483648 ∧ T 4 i ≤ 9 := by
  obtain ⟨h1, h2, T, hT, hv⟩ := h
  have b2 := w.2.1
  refine ⟨T, hT, hv, fun i hi => hv i hi 0 (by omega), fun i hi => ?_, fun i hi => ?_⟩
  · have := hT.bd w hi; omega
  · have := hT.bd w hi; omega
theorem rkd0_none {T : Nat → Nat → Nat} {S : OS} (hT : OT T S) (h : rkdT T (oc S) 0 = none) : oc S = 0 := by
  by_cases e : oc S = 0
  · exact e
  · obtain ⟨i, hi, -⟩ := hT.first (by omega)
    rw [hi] at h; cases h
theorem m_servable {K : Int32 → Prop} (hM : HM (I 191) H) (w : HW H) (hs3 : H.s 3 ≤ 20) (h : K (zb (canN H))) : f_X9_isServable I K := by
  have w1 := w.2.1.1
  obtain ⟨T, hT, hv, hv0, hb0, hb⟩ := hM.2.1.fa w.2.1
  have h4 : I 191 4 = nI (20 - H.s 3) := hM.2.2.2.1
  unfold f_X9_isServable
  refine m_ranked hM.2.1.1 w1 hv hb _ ?_
  rw [show (nI 0).toInt = 0 from rfl]
  cases e : rkdT T (oc H.o) 0 with
  | none =>
    have e0 := rkd0_none hT e
    rw [optI_none, if_pos (by decide)]
    rw [zb_f (fun q => q.1 (by unfold kffN; rw [if_pos e0]))] at h
    exact h
  | some i =>
    have hi := firstN_lt e
    have hr : rnkO T (oc H.o) i = 0 := by have := (firstN_some e).2.1; omega
    have hf := fun f hf => hT.2 i hi f hf
    rw [hr] at hf
    have bd := hT.bd w.2.1 hi
    rw [optI_some]
    have hng := n_neg (a := i) (by omega)
    simp only [hng, if_false]
    refine m_pourer (T := T) hM.1 w.1 (by omega) (hv i hi) (by omega) (by omega) ?_
    have ek : kffN H = suitK H.k (T 2 i) (T 3 i) (kc H.k) := by
      unfold kffN
      rw [if_neg (by omega), hf 2 (by omega), hf 3 (by omega)]
    have kw1 := w.1.1
    cases e2 : suitK H.k (T 2 i) (T 3 i) (kc H.k) with
    | none =>
      rw [optI_none, if_pos (by decide)]
      rw [zb_f (fun q => q.1 (by rw [ek]; exact e2))] at h
      exact h
    | some j =>
      have hj := suitK_lt e2
      have hng2 := n_neg (a := j) (by omega)
      rw [optI_some]
      simp only [hng2, if_false]
      refine m_o (by omega) (by omega) ?_
      rw [h4, n_sub (by omega), hv i hi 2 (by omega)]
      simp (disch := omega) only [n_ltP]
      split
      · next q => rw [zb_f (fun q2 => by have := q2.2; rw [hf 2 (by omega)] at this; omega)] at h; exact h
      · next q => rw [zb_t ⟨(by rw [ek, e2]; intro q2; cases q2), (by rw [hf 2 (by omega)]; omega)⟩] at h; exact h
theorem m_cancels {K : Int32 → IT → Prop} (hM : HM (I 191) H) (w : HW H) (x y z u : Int32) (h : MK I H 4 x y z u K) : f_X9_cancels x I K := by
  have w1 := w.2.1.1
  obtain ⟨T, hT, hv, hv0, hb0, hb⟩ := hM.2.1.fa w.2.1
  have e0 : refN 4 H x.toInt y.toInt z.toInt u.toInt = if findO H.o x.toInt = none then 4 else 0 := rfl
  have ef := hT.find w.2.1 x.toInt
  unfold f_X9_cancels
  refine m_find hM.2.1.1 w1 hv0 hb0 x ?_
  cases e : fndT T (oc H.o) x.toInt with
  | none =>
    rw [e] at ef
    rw [optI_none, if_neg (by decide)]
    exact h.no (by rw [e0, if_pos (show findO H.o x.toInt = none from ef)]) (by decide)
  | some i =>
    rw [e] at ef
    have hi := firstN_lt e
    have hx := (firstN_some e).2.1
    have ef2 : findO H.o x.toInt = some (rnkO T (oc H.o) i) := ef
    have hg := n_ge0 (a := i) (by omega)
    rw [optI_some]
    simp only [hg, if_true]
    refine m_goes hM.2.1.1 w1 hi fun I' a1 a2 a3 a4 => ?_
    rw [wr_p, a2]
    have hq : ∀ q, q ≠ 2 → (q < 53 + 5 * i ∨ 103 ≤ q) → (up2 I' 190 4 (nI (oc H.o - 1))) 191 q = I 191 q := fun q b c => by rw [up2_nea (by decide)]; exact a3 q b c
    refine h.2 (by rw [e0, ef2]; rfl) _ ⟨fun q b c => by rw [up2_ne b]; exact a1 q c, fun j hj => hq j (by omega) (by omega), fun j hj => by rw [up2_nej hj, a1 190 (by decide)]⟩ ⟨hM.1.same w.1 (hq _ (by omega) (by omega)) (fun q a b => hq q (by omega) (by omega)), ?_, hM.2.2.1.same w.2.2 (hq _ (by omega) (by omega)) (fun q a b => hq q (by omega) (by omega)) (hq _ (by omega) (by omega)), hM.2.2.2.same (fun q a b => hq q (by omega) (by omega)) (fun q a b => hq q (by omega) (by omega))⟩ ?_
    · show OM _ (delO H.o ((findO H.o (ix x : Int)).getD 0))
      have hxi : (ix x : Int) = x.toInt := by
        obtain ⟨x1, x2, x3⟩ := x_ix (x := x) (by omega)
        exact x2.symm
      rw [hxi, ef2]
      refine ⟨by rw [up2_nea (by decide)]; exact a2, by rw [hq 3 (by omega) (by omega)]; exact hM.2.1.2.1, delT T i, hT.del hi, fun j hj f hf => ?_⟩
      have hj : j < oc H.o - 1 := hj
      rw [up2_nea (by decide)]
      unfold delT
      by_cases c : i ≤ j
      · rw [if_pos c, a4 _ (by omega) (by omega)]
        have := hv (j + 1) (by omega) f hf
        rw [show 53 + 5 * j + f + 5 = 53 + 5 * (j + 1) + f by omega]; exact this
      · rw [if_neg c, a3 _ (by omega) (by omega)]
        exact hv j (by omega) f hf
    · rw [up2_same]; rfl
theorem m_serves {K : Int32 → IT → Prop} (hM : HM (I 191) H) (w : HW H) {t : Nat} (hT0 : HT t H) (ht : t ≤ 8000) (x y z u : Int32) (h : MK I H 5 x y z u K) : f_X9_serves I K := by
  obtain ⟨t1, t2, t3, t4, t5, t6, t7, t8, t9, t10, t11⟩ := hT0
  have kw1 := w.1.1
  have w1 := w.2.1.1
  obtain ⟨T, hT, hv, hv0, hb0, hb⟩ := hM.2.1.fa w.2.1
  have e0 : refN 5 H x.toInt y.toInt z.toInt u.toInt = unlN True (canN H) := rfl
  have h4 : I 191 4 = nI (20 - H.s 3) := hM.2.2.2.1
  have h7 : I 191 7 = nI (H.s 6) := hM.2.2.2.2.2.2.1
  have h9 : I 191 9 = nI (H.s 8) := hM.2.2.2.2.2.2.2.2.1
  have h14 : I 191 14 = nI (H.s 11) := hM.2.2.2.2.2.2.2.2.2.2.2.1
  obtain ⟨l1, l2, l3, l4, l5⟩ := hM.2.2.1
  unfold f_X9_serves
  refine m_servable hM w t1 ?_
  simp only [zb_eq0]
  split
  · next q => exact h.no (by rw [e0, unl_t trivial, if_pos q]) (by decide)
  · next q =>
    have hc : canN H := Decidable.byContradiction q
    refine m_ranked hM.2.1.1 w1 hv hb _ ?_
    rw [show (nI 0).toInt = 0 from rfl]
    cases e : rkdT T (oc H.o) 0 with
    | none =>
      have e1 := rkd0_none hT e
      exact absurd (by unfold kffN; rw [if_pos e1]) hc.1
    | some i =>
      have hi := firstN_lt e
      have hr : rnkO T (oc H.o) i = 0 := by have := (firstN_some e).2.1; omega
      have hf := fun f hf => hT.2 i hi f hf
      rw [hr] at hf
      have bd := hT.bd w.2.1 hi
      have ek : kffN H = suitK H.k (T 2 i) (T 3 i) (kc H.k) := by
        unfold kffN
        rw [if_neg (by omega), hf 2 (by omega), hf 3 (by omega)]
      rw [optI_some]
      refine m_pourer (T := T) hM.1 w.1 (by omega) (hv i hi) (by omega) (by omega) ?_
      rw [← ek]
      cases e2 : kffN H with
      | none => exact absurd e2 hc.1
      | some j =>
        obtain ⟨j1, j2⟩ := kff_lt e2
        have hvol := kff_vol e2
        have hcu := hc.2
        rw [hf 2 (by omega)] at hvol hcu
        have bk := w.1.2 j j2
        have g2 := (hM.1.2 j j2).2.1
        rw [optI_some]
        refine m_o (by omega) (by omega) ?_
        refine m_o (by omega) (by omega) ?_
        rw [hv i hi 2 (by omega), hv i hi 0 (by omega), wr_p]
        refine m_k (by omega) (by omega) ?_
        rw [up2_nea (by decide), g2, pk_mul, n_sub hvol]
        refine m_set (by omega) (by omega) ?_
        simp only [wr_p]
        have hm : T 2 i * H.s 8 ≤ 480 := Nat.mul_le_mul (show T 2 i ≤ 6 by omega) t5.2
        simp (disch := first | omega | decide) only [up2_nej, up2_nea, h7, h4, h14, h9, nI_add, pk_mul]
        refine m_earns (p := lpr H.l) (q := lcu H.l) (by omega) ?_ ?_ (by decide) ?_
        · simp (disch := first | omega | decide) only [up2_nej, up2_nea]; exact l1
        · simp (disch := first | omega | decide) only [up2_nej, up2_nea]; exact l3
        · generalize hJ : up2 (up2 (up2 (up2 (up2 (up2 (up2 I 190 4 (nI (T 0 i))) 191 (33 + 5 * j + 1) (nI (kvol H.k j - 2 * T 2 i))) 191 7 (nI (H.s 6 + 2 * T 2 i))) 191 4 (nI (20 - H.s 3 + T 2 i))) 191 14 (nI (H.s 11 + 1))) 191 12 (nI (lpr H.l + T 2 i * H.s 8))) 191 17 (nI (lcu H.l + T 2 i * H.s 8)) = J
          have hJq : ∀ q, q ≠ 33 + 5 * j + 1 → q ≠ 7 → q ≠ 4 → q ≠ 14 → q ≠ 12 → q ≠ 17 → J 191 q = I 191 q := fun q a1 a2 a3 a4 a5 a6 => by
            subst hJ
            rw [up2_nej a6, up2_nej a5, up2_nej a4, up2_nej a3, up2_nej a2, up2_nej a1, up2_nea (by decide)]
          have hJm : Mod I J := by subst hJ; exact ((((((Mod.rf.s _).r (by omega) _).r (by omega) _).r (by omega) _).r (by omega) _).r (by omega) _).r (by omega) _
          have k1 : J 191 (33 + 5 * j + 1) = nI (kvol H.k j - 2 * T 2 i) := by subst hJ; simp (disch := first | omega | decide) only [up2_nej, up2_same]
          have k7 : J 191 7 = nI (H.s 6 + 2 * T 2 i) := by subst hJ; simp (disch := first | omega | decide) only [up2_nej, up2_same]
          have k4 : J 191 4 = nI (20 - H.s 3 + T 2 i) := by subst hJ; simp (disch := first | omega | decide) only [up2_nej, up2_same]
          have k14 : J 191 14 = nI (H.s 11 + 1) := by subst hJ; simp (disch := first | omega | decide) only [up2_nej, up2_same]
          have k12 : J 191 12 = nI (lpr H.l + T 2 i * H.s 8) := by subst hJ; simp (disch := first | omega | decide) only [up2_nej, up2_same]
          have k17 : J 191 17 = nI (lcu H.l + T 2 i * H.s 8) := by subst hJ; simp (disch := first | omega | decide) only [up2_nej, up2_same]
          have k0 : J 190 4 = nI (T 0 i) := by subst hJ; simp (disch := first | omega | decide) only [up2_nea, up2_same]
          refine m_goes (n := oc H.o) (by rw [hJq 2 (by omega) (by omega) (by omega) (by omega) (by omega) (by omega)]; exact hM.2.1.1) w1 hi fun I' a1 a2 a3 a4 => ?_
          have hq : ∀ q, q ≠ 2 → (q < 53 + 5 * i ∨ 103 ≤ q) → I' 191 q = J 191 q := a3
          have e1 : nxtN 5 H (ix x) (ix y) (ix z) (ix u) = (((((H.sk (takeK H.k j (2 * T 2 i))).ss 6 (H.s 6 + 2 * T 2 i)).ss 3 (H.s 3 - T 2 i)).ss 11 (H.s 11 + 1)).sl (cupsL H.l (T 2 i * H.s 8))).so (delO H.o 0) := by
            show serveH H = _
            unfold serveH
            rw [e2, hf 2 (by omega)]; rfl
          refine h.2 (by rw [e0, unl_t trivial, if_neg (fun z => z hc)]) _ (hJm.tr ⟨fun q b c => a1 q c, fun j hj => hq j (by omega) (by omega), fun j hj => by rw [a1 190 (by decide)]⟩) ?_ ?_
          · rw [e1]
            refine ⟨⟨by rw [hq 1 (by omega) (by omega), hJq 1 (by omega) (by omega) (by omega) (by omega) (by omega) (by omega)]; exact hM.1.1, fun k hk => ?_⟩, ⟨a2, by rw [hq 3 (by omega) (by omega), hJq 3 (by omega) (by omega) (by omega) (by omega) (by omega) (by omega)]; exact hM.2.1.2.1, delT T i, by have := hT.del hi; rw [hr] at this; exact this, fun c hc2 f hf2 => ?_⟩, ⟨by rw [hq 12 (by omega) (by omega)]; exact k12, by rw [hq 13 (by omega) (by omega), hJq 13 (by omega) (by omega) (by omega) (by omega) (by omega) (by omega)]; exact l2, by rw [hq 17 (by omega) (by omega)]; exact k17, by rw [hq 18 (by omega) (by omega), hJq 18 (by omega) (by omega) (by omega) (by omega) (by omega) (by omega)]; exact l4, fun c hc2 => ?_⟩, ?_⟩
            · have hk : k < kc H.k := hk
              obtain ⟨g1, g2, g3, g4, g5⟩ := hM.1.2 k hk
              show _ = nI (kcap H.k k) ∧ _ = nI (setN (kvol H.k) j (kvol H.k j - 2 * T 2 i) k) ∧ _ = nI (ktmp H.k k) ∧ _ = nI (klev H.k k) ∧ _ = nI (kboi H.k k)
              refine ⟨by rw [hq _ (by omega) (by omega), hJq _ (by omega) (by omega) (by omega) (by omega) (by omega) (by omega)]; exact g1, ?_, by rw [hq _ (by omega) (by omega), hJq _ (by omega) (by omega) (by omega) (by omega) (by omega) (by omega)]; exact g3, by rw [hq _ (by omega) (by omega), hJq _ (by omega) (by omega) (by omega) (by omega) (by omega) (by omega)]; exact g4, by rw [hq _ (by omega) (by omega), hJq _ (by omega) (by omega) (by omega) (by omega) (by omega) (by omega)]; exact g5⟩
              by_cases c : k = j
              · subst c; rw [hq _ (by omega) (by omega), k1, setN_at]
              · rw [hq _ (by omega) (by omega), hJq _ (by omega) (by omega) (by omega) (by omega) (by omega) (by omega), setN_ne c]; exact g2
            · have hc2 : c < oc H.o - 1 := hc2
              unfold delT
              by_cases cc : i ≤ c
              · rw [if_pos cc, a4 _ (by omega) (by omega), hJq _ (by omega) (by omega) (by omega) (by omega) (by omega) (by omega)]
                have := hv (c + 1) (by omega) f hf2
                rw [show 53 + 5 * c + f + 5 = 53 + 5 * (c + 1) + f by omega]; exact this
              · rw [if_neg cc, a3 _ (by omega) (by omega), hJq _ (by omega) (by omega) (by omega) (by omega) (by omega) (by omega)]
                exact hv c (by omega) f hf2
            · have lw1 := w.2.2.1
              have hc2 : c < lc H.l := hc2
              rw [hq _ (by omega) (by omega), hJq _ (by omega) (by omega) (by omega) (by omega) (by omega) (by omega)]; exact l5 c hc2
            · obtain ⟨s1, s2, s3, s4, s5, s6, s7, s8, s9, s10, s11⟩ := hM.2.2.2
              have es : ∀ f, ((((((H.sk (takeK H.k j (2 * T 2 i))).ss 6 (H.s 6 + 2 * T 2 i)).ss 3 (H.s 3 - T 2 i)).ss 11 (H.s 11 + 1)).sl (cupsL H.l (T 2 i * H.s 8))).so (delO H.o 0)).s f = if f = 11 then H.s 11 + 1 else if f = 3 then H.s 3 - T 2 i else if f = 6 then H.s 6 + 2 * T 2 i else H.s f := fun f => rfl
              have hz : ∀ q, q < 17 → q ≠ 7 → q ≠ 4 → q ≠ 14 → q ≠ 12 → q ≠ 2 → I' 191 q = I 191 q := fun q b1 b2 b3 b4 b5 b6 => by rw [hq q b6 (by omega)]; exact hJq q (by omega) b2 b3 b4 b5 (by omega)
              unfold SM
              simp only [es]
              refine ⟨?_, ?_, ?_, ?_, ?_, ?_, ?_, ?_, ?_, ?_, ?_⟩
              · rw [hq 4 (by omega) (by omega), k4]; simp; congr 1; omega
              · rw [hz 5 (by omega) (by omega) (by omega) (by omega) (by omega) (by omega)]; exact s2
              · rw [hz 6 (by omega) (by omega) (by omega) (by omega) (by omega) (by omega)]; exact s3
              · rw [hq 7 (by omega) (by omega), k7]; rfl
              · rw [hz 8 (by omega) (by omega) (by omega) (by omega) (by omega) (by omega)]; exact s5
              · rw [hz 9 (by omega) (by omega) (by omega) (by omega) (by omega) (by omega)]; exact s6
              · rw [hz 10 (by omega) (by omega) (by omega) (by omega) (by omega) (by omega)]; exact s7
              · rw [hz 11 (by omega) (by omega) (by omega) (by omega) (by omega) (by omega)]; exact s8
              · rw [hq 14 (by omega) (by omega), k14]; rfl
              · rw [hz 15 (by omega) (by omega) (by omega) (by omega) (by omega) (by omega)]; exact s10
              · rw [hz 16 (by omega) (by omega) (by omega) (by omega) (by omega) (by omega)]; exact s11
          · rw [a1 190 (by decide), k0]
            show _ = nI (oF H.o 0 0)
            rw [hf 0 (by omega)]
end M
