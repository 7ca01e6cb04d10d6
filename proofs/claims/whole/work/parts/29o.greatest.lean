/-! ===== the greatest sums on the reference's side ===== -/
theorem sumN_shift {S : GS} (w : LW S) {k r : Nat} (h : k + r ≤ lc S) : sumN (fun i => lin S (k + i)) r < 100000000 := by
  have h1 := sumN_add (lin S) k r
  have h2 := w.sum_le h
  omega
theorem grN_lt {S : GS} (w : LW S) {m k : Nat} (h : k + m ≤ lc S + 1) : grN (lin S) m k < 100000000 := by
  have h1 := grN_le (f := lin S) (n := m) (c := lc S) (k := k) h
  have h2 := w.sum_le (Nat.le_refl _)
  omega
theorem m_grIn {J : IT} {S : GS} (hv : ∀ j, j < lc S → J 191 (19 + j) = nI (lin S j)) (w : LW S) {X : Int32 → Int32 → IT → Prop} {Kx : UInt32 → IT → Prop} {m k : Nat} (hk : k + m ≤ lc S) (h : X (nI (grN (lin S) m (k + 1))) (nI (k + 1)) J) : ∀ f r, r ≤ m → m - r < f → f_X9_greatestIncome_b66 (nI m) X Kx f (nI (grN (lin S) m k)) (nI k) (nI (sumN (fun i => lin S (k + i)) r)) (nI (k + r)) J := by
  have w1 := w.1
  have bg := grN_lt w (m := m) (k := k) (by omega)
  intro f
  induction f with
  | zero => intro r _ hm; omega
  | succ f ih =>
    intro r hr hf
    rw [f_X9_greatestIncome_b66]
    simp only [nI_add]
    have bs := sumN_shift w (k := k) (r := r) (by omega)
    have g := n_leP (a := k + m) (b := k + r) (by omega) (by omega)
    by_cases e : r = m
    · rw [if_pos (by rw [g]; omega)]
      subst e
      have g2 := n_leP (a := sumN (fun i => lin S (k + i)) r) (b := grN (lin S) r k) (by omega) (by omega)
      have eg : grN (lin S) r (k + 1) = max (grN (lin S) r k) (sumN (fun i => lin S (k + i)) r) := rfl
      rw [eg] at h
      simp only [bnd_p]
      by_cases q : sumN (fun i => lin S (k + i)) r ≤ grN (lin S) r k
      · rw [if_pos (by rw [g2]; exact q)]
        rw [Nat.max_eq_left q] at h; exact h
      · rw [if_neg (by rw [g2]; exact q)]
        rw [Nat.max_eq_right (by omega)] at h; exact h
    · rw [if_neg (by rw [g]; omega), inr_n (by omega), ix_n (by omega), show 19 + (k + r) = 19 + (k + r) from rfl, hv (k + r) (by omega), bnd_p, bnd_p, nI_add]
      refine ⟨by omega, ?_⟩
      exact ih (r + 1) (by omega) (by omega)
theorem m_gr {I : IT} {S : GS} (e13 : I 191 13 = nI (lc S)) (hv : ∀ j, j < lc S → I 191 (19 + j) = nI (lin S j)) (w : LW S) (x : Int32) {Kx : UInt32 → IT → Prop} (h0 : ¬ (1 ≤ x.toInt ∧ x.toInt ≤ 14) → Kx FP.fconst0 (up2 I 190 0 (nI 1))) (h1 : (1 ≤ x.toInt ∧ x.toInt ≤ 14) → (lc S : Int) < x.toInt → Kx FP.fconst0 (up2 I 190 0 (nI 2))) (h2 : 1 ≤ x.toInt → x.toInt ≤ lc S → Kx (FP.fdiv (FP.i2f (nI (grN (lin S) (ix x) (lc S + 1 - ix x)))) 1090519040) (up2 I 190 0 (nI 0))) : f_X9_greatestIncome x I Kx := by
  have w1 := w.1
  unfold f_X9_greatestIncome
  refine m_in (by decide) (by decide) ?_
  simp only [zb_eq0]
  have g := xn_le (x := x) (n := lc S) (by omega)
  by_cases q : 1 ≤ x.toInt ∧ x.toInt ≤ 14
  · rw [if_neg (fun z => z (by omega)), e13]
    by_cases q2 : x.toInt ≤ lc S
    · rw [if_pos (by rw [g]; exact q2)]
      obtain ⟨x1, x2, x3⟩ := x_ix (x := x) (by omega)
      have h3 := h2 q.1 q2
      clear h2
      generalize ix x = m at *
      subst x1
      have hm1 : 1 ≤ m := by omega
      have hm2 : m ≤ lc S := by omega
      unfold f_X9_greatestIncome_b31
      rw [wr_p, up2_same, if_pos (by decide)]
      have v13 : (up2 I 190 0 (nI 0)) 191 13 = nI (lc S) := by rw [up2_nea (by decide)]; exact e13
      have vv : ∀ j, j < lc S → (up2 I 190 0 (nI 0)) 191 (19 + j) = nI (lin S j) := fun j hj => by rw [up2_nea (by decide)]; exact hv j hj
      have loop : ∀ n k, k ≤ lc S + 1 - m → lc S + 1 - m - k < n → f_X9_greatestIncome_b47 (nI m) Kx n (nI (grN (lin S) m k)) (nI k) (up2 I 190 0 (nI 0)) := by
        intro n
        induction n with
        | zero => intro k _ hn; omega
        | succ n ih =>
          intro k hk hn
          rw [f_X9_greatestIncome_b47, v13, nI_add]
          have g2 := n_ltP (a := lc S) (b := k + m) (by omega) (by omega)
          by_cases e : k = lc S + 1 - m
          · rw [if_pos (by rw [g2]; omega)]
            unfold f_X9_eighths
            refine ⟨?_, ?_⟩
            · rw [← fl_eighth]; exact fl_n32 (fl_fin_eighth _)
            · rw [e]; exact h3
          · rw [if_neg (by rw [g2]; omega)]
            exact m_grIn vv w (k := k) (by omega) (ih (k + 1) (by omega) (by omega)) 4096 0 (Nat.zero_le _) (by omega)
      exact loop 4096 0 (Nat.zero_le _) (by omega)
    · rw [if_neg (by rw [g]; exact q2)]
      unfold f_X9_greatestIncome_b31
      rw [wr_p, up2_same, if_neg (by decide)]
      exact h1 q (by omega)
  · rw [if_pos (by omega)]
    unfold f_X9_greatestIncome_b31
    rw [wr_p, up2_same, if_neg (by decide)]
    exact h0 q
theorem s_reqN {I : IT} {T : TS} {K : Prop} {KT : String → Prop} (hC : KCR I T) (x : Int32) (h0 : ¬ (1 ≤ x.toInt ∧ x.toInt ≤ 14) → KT "java/lang/IllegalArgumentException") (h1 : (1 ≤ x.toInt ∧ x.toInt ≤ 14) → (lc T.h.l : Int) < x.toInt → KT "java/util/NoSuchElementException") (h2 : 1 ≤ x.toInt → x.toInt ≤ lc T.h.l → K) : f_X8_requireNights x I K KT := by
  unfold f_X8_requireNights
  have w1 := hC.1.2.2.1.1.1
  refine s_within (by decide) (by decide) ?_
  simp only [zb_eq0]
  have g := xn_le (x := x) (n := lc T.h.l) (by omega)
  have e1 : I 14 2 = nI (lc T.h.l) := hC.1.lc
  by_cases q : 1 ≤ x.toInt ∧ x.toInt ≤ 14
  · rw [if_neg (fun z => z (by omega)), e1]
    by_cases q2 : x.toInt ≤ lc T.h.l
    · rw [if_pos (by rw [g]; exact q2)]; exact h2 q.1 q2
    · rw [if_neg (by rw [g]; exact q2)]; exact h1 q (by omega)
  · rw [if_pos (by omega)]; exact h0 q
section Law
variable {xs : Nat → Int32} {nn : Nat} {X28 : Int32 → IT → LT → Prop} {K : Int32 → IT → LT → Prop} {p : Nat} {I : IT} {L : LT} {T : TS} {t : Nat}
theorem l_greatestIncome (hp : p + 5 ≤ nn) (hn : nn ≤ 2560) (hS : ST I T t) (ht : t ≤ 8000) (hX : NX X28 p t) : f_L_law_b2610 xs nn X28 K (nI p) I L := by
  unfold f_L_law_b2610
  simp only [nI_add]
  rw [inr_n (k := p + 1) (by omega), ix_n (n := p + 1) (by omega)]
  refine ⟨by omega, ?_⟩
  generalize xs (p + 1) = x
  unfold f_L_greatestIncome f_X8_greatestIncome
  have lw1 := hS.1.1.1.2.2.1
  have e2 : I 191 13 = nI (lc T.h.l) := hS.2.2.1.2.2.1.2.1
  have c2 : ∀ j, j < lc T.h.l → I 191 (19 + j) = nI (lin T.h.l j) := hS.2.2.1.2.2.1.2.2.2.2
  refine s_reqN hS.2.1 x (fun q => ?_) (fun q q2 => ?_) (fun q q2 => ?_)
  · rw [if_pos rfl]
    refine m_gr e2 c2 hS.1.1.1.2.2 x (fun _ => ?_) (fun z => absurd z q) (fun a b => absurd ⟨a, by omega⟩ q)
    unfold f_X9_thrown
    dsimp only
    rw [up2_same, if_pos rfl, if_neg (by decide)]
    exact l_3520 hX (hS.th _) (by omega)
  · rw [if_neg (by decide), if_pos rfl]
    refine m_gr e2 c2 hS.1.1.1.2.2 x (fun z => absurd q z) (fun _ _ => ?_) (fun a b => by omega)
    unfold f_X9_thrown
    dsimp only
    rw [up2_same, if_pos rfl, if_neg (by decide)]
    exact l_3520 hX (hS.th _) (by omega)
  · obtain ⟨x1, x2, x3⟩ := x_ix (x := x) (by omega)
    have e0 : f_X4_greatestByAdding 14 x I = f_X4_greatestByAdding 14 (nI (ix x)) I := by rw [← x1]
    rw [e0]
    refine s_grAdd hS.2.1.1.2.2.1 (by omega) (by omega) ?_
    unfold f_X8_eighths wrD
    refine ⟨fl_n32 (fl_fin_eighth _), fl_n64 (fl_f2d (fl_fin_eighth _)), ?_⟩
    dsimp only
    refine m_gr e2 c2 hS.1.1.1.2.2 x (fun z => absurd ⟨q, by omega⟩ z) (fun _ z => by omega) (fun _ _ => ?_)
    rw [← fl_eighth]
    unfold f_X9_thrown
    dsimp only
    rw [up2_same, if_pos rfl, if_pos (by decide)]
    refine ⟨fl_n64 (fl_f2d (fl_fin_eighth _)), ?_⟩
    rw [if_pos (by rw [up2_same]; exact fl_self (fl_f2d (fl_fin_eighth _)))]
    exact l_3520 hX (hS.th _) (by omega)
theorem l_greatestIncomeBySums (hp : p + 5 ≤ nn) (hn : nn ≤ 2560) (hS : ST I T t) (ht : t ≤ 8000) (hX : NX X28 p t) : f_L_law_b2688 xs nn X28 K (nI p) I L := by
  unfold f_L_law_b2688
  simp only [nI_add]
  rw [inr_n (k := p + 1) (by omega), ix_n (n := p + 1) (by omega)]
  refine ⟨by omega, ?_⟩
  generalize xs (p + 1) = x
  unfold f_L_greatestIncomeBySums f_X8_greatestIncomeBySums f_X9_greatestIncomeBySums
  have lw1 := hS.1.1.1.2.2.1
  have e2 : I 191 13 = nI (lc T.h.l) := hS.2.2.1.2.2.1.2.1
  have c2 : ∀ j, j < lc T.h.l → I 191 (19 + j) = nI (lin T.h.l j) := hS.2.2.1.2.2.1.2.2.2.2
  refine s_reqN hS.2.1 x (fun q => ?_) (fun q q2 => ?_) (fun q q2 => ?_)
  · rw [if_pos rfl]
    refine m_gr e2 c2 hS.1.1.1.2.2 x (fun _ => ?_) (fun z => absurd z q) (fun a b => absurd ⟨a, by omega⟩ q)
    unfold f_X9_thrown
    dsimp only
    rw [up2_same, if_pos rfl, if_neg (by decide)]
    exact l_3520 hX (hS.th _) (by omega)
  · rw [if_neg (by decide), if_pos rfl]
    refine m_gr e2 c2 hS.1.1.1.2.2 x (fun z => absurd q z) (fun _ _ => ?_) (fun a b => by omega)
    unfold f_X9_thrown
    dsimp only
    rw [up2_same, if_pos rfl, if_neg (by decide)]
    exact l_3520 hX (hS.th _) (by omega)
  · obtain ⟨x1, x2, x3⟩ := x_ix (x := x) (by omega)
    have e0 : f_X4_greatestByDifferences 14 x I = f_X4_greatestByDifferences 14 (nI (ix x)) I := by rw [← x1]
    rw [e0]
    refine s_grDiff hS.2.1.1.2.2.1 (by omega) (by omega) ?_
    unfold f_X8_eighths wrD
    refine ⟨fl_n32 (fl_fin_eighth _), fl_n64 (fl_f2d (fl_fin_eighth _)), ?_⟩
    dsimp only
    refine m_gr e2 c2 hS.1.1.1.2.2 x (fun z => absurd ⟨q, by omega⟩ z) (fun _ z => by omega) (fun _ _ => ?_)
    rw [← fl_eighth]
    unfold f_X9_thrown
    dsimp only
    rw [up2_same, if_pos rfl, if_pos (by decide)]
    refine ⟨fl_n64 (fl_f2d (fl_fin_eighth _)), ?_⟩
    rw [if_pos (by rw [up2_same]; exact fl_self (fl_f2d (fl_fin_eighth _)))]
    exact l_3520 hX (hS.th _) (by omega)
end Law
