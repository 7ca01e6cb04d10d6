/-! ===== the law's cases: orders, totals ===== -/
theorem m_fine0 {I : IT} {K : Int32 → IT → Prop} (h : K (nI 0) (up2 I 190 0 (nI 1))) : f_X9_isFine (nI 0) I K := by
  rw [zb0]; refine m_isFine ?_; rw [if_neg (fun z => z)]; exact h
theorem m_fine1 {I : IT} {K : Int32 → IT → Prop} (h : K (nI 1) (up2 I 190 0 (nI 0))) : f_X9_isFine (nI 1) I K := by
  rw [zb1]; refine m_isFine ?_; rw [if_pos trivial]; exact h
theorem s_found {I : IT} {K : Int32 → Prop} {KT : String → Prop} {r : Option Nat} (hb : ∀ j, r = some j → j < 2147483648) (h0 : r = none → KT "java/util/NoSuchElementException") (h1 : ∀ j, r = some j → K (nI j)) : f_X8_requireFound (optI r) I K KT := by
  unfold f_X8_requireFound
  have e := optI_m1 hb
  simp only [e]
  cases r with
  | none => rw [if_pos rfl]; exact h0 rfl
  | some j => rw [if_neg (by intro q; cases q)]; exact h1 j rfl
section Law
variable {xs : Nat → Int32} {nn : Nat} {X28 : Int32 → IT → LT → Prop} {K : Int32 → IT → LT → Prop} {p : Nat} {I : IT} {L : LT} {T : TS} {t : Nat}
theorem l_undoableCount (hp : p + 5 ≤ nn) (hn : nn ≤ 2560) (hS : ST I T t) (ht : t ≤ 8000) (hX : NX X28 p t) : f_L_law_b3406 xs nn X28 K (nI p) I L := by
  unfold f_L_law_b3406 f_X8_undoableCount f_X9_undoableCount
  obtain ⟨n, n1, n2, n3, n4⟩ := hS.2.1.2.1
  rw [wr_p, up2_nej (by decide), n3, hS.2.2.2.1]
  dsimp only
  rw [if_pos rfl]
  exact l_3520 hX (hS.th _) (by omega)
theorem l_canServe (hp : p + 5 ≤ nn) (hn : nn ≤ 2560) (hS : ST I T t) (ht : t ≤ 8000) (hX : NX X28 p t) : f_L_law_b2136 xs nn X28 K (nI p) I L := by
  unfold f_L_law_b2136 f_X8_canServe f_X9_canServe
  refine s_refusal (v := 5) hS.2.1.1 hS.1.1.2 ht (by decide) (nI 0) (nI 0) (nI 0) (nI 0) ?_
  have e0 : refN 5 T.h (nI 0).toInt (nI 0).toInt (nI 0).toInt (nI 0).toInt = unlN True (canN T.h) := rfl
  have e191 : (up2 I 190 0 (nI 0)) 191 = I 191 := up2_ne (by decide)
  rw [e0]
  by_cases c : canN T.h
  · have eu : unlN True (canN T.h) = 0 := by rw [unl_t trivial, if_neg (fun z => z c)]
    rw [eu, if_pos rfl]
    dsimp only
    rw [wr_p]
    refine m_servable (H := T.h) (by rw [e191]; exact hS.2.2.1) hS.1.1.1 hS.1.1.2.1 ?_
    rw [zb_t c, if_pos rfl]
    exact l_3520 hX (hS.th _) (by omega)
  · have eu : unlN True (canN T.h) = 3 := by rw [unl_t trivial, if_pos c]
    rw [eu, if_neg (by decide)]
    dsimp only
    rw [wr_p]
    refine m_servable (H := T.h) (by rw [e191]; exact hS.2.2.1) hS.1.1.1 hS.1.1.2.1 ?_
    rw [zb_f c, if_pos rfl]
    exact l_3520 hX (hS.th _) (by omega)
theorem l_totalIncome (hp : p + 5 ≤ nn) (hn : nn ≤ 2560) (hS : ST I T t) (ht : t ≤ 8000) (hX : NX X28 p t) : f_L_law_b2766 xs nn X28 K (nI p) I L := by
  unfold f_L_law_b2766 f_X8_totalIncome f_X9_totalIncome
  refine s_totNights hS.2.1.1.2.2.1 ?_
  unfold f_X8_eighths
  have e1 : I 191 17 = nI (lcu T.h.l) := hS.2.2.1.2.2.1.2.2.1
  have e2 : I 191 18 = nI (lst T.h.l) := hS.2.2.1.2.2.1.2.2.2.1
  refine ⟨fl_n32 (fl_fin_eighth _), fl_n64 (fl_f2d (fl_fin_eighth _)), m_told (by decide) ?_⟩
  unfold f_X9_eighths
  rw [up2_nea (by decide), e1, e2, nI_add, ← fl_eighth]
  refine ⟨fl_n32 (fl_fin_eighth _), fl_n64 (fl_f2d (fl_fin_eighth _)), ?_⟩
  rw [if_pos (fl_self (fl_f2d (fl_fin_eighth _)))]
  exact l_3520 hX (hS.th _) (by omega)
theorem l_totalIncomeBySales (hp : p + 5 ≤ nn) (hn : nn ≤ 2560) (hS : ST I T t) (ht : t ≤ 8000) (hX : NX X28 p t) : f_L_law_b2809 xs nn X28 K (nI p) I L := by
  unfold f_L_law_b2809 f_X8_totalIncomeBySales f_X9_totalIncomeBySales f_X9_totalIncome
  refine s_totSales hS.2.1.1.2.2.1 ?_
  unfold f_X8_eighths
  have e1 : I 191 17 = nI (lcu T.h.l) := hS.2.2.1.2.2.1.2.2.1
  have e2 : I 191 18 = nI (lst T.h.l) := hS.2.2.1.2.2.1.2.2.2.1
  refine ⟨fl_n32 (fl_fin_eighth _), fl_n64 (fl_f2d (fl_fin_eighth _)), m_told (by decide) ?_⟩
  unfold f_X9_eighths
  rw [up2_nea (by decide), e1, e2, nI_add, ← fl_eighth]
  refine ⟨fl_n32 (fl_fin_eighth _), fl_n64 (fl_f2d (fl_fin_eighth _)), ?_⟩
  rw [if_pos (fl_self (fl_f2d (fl_fin_eighth _)))]
  exact l_3520 hX (hS.th _) (by omega)
theorem l_orderAt (hp : p + 5 ≤ nn) (hn : nn ≤ 2560) (hS : ST I T t) (ht : t ≤ 8000) (hX : NX X28 p t) : f_L_law_b1778 xs nn X28 K (nI p) I L := by
  unfold f_L_law_b1778
  simp only [nI_add]
  rw [inr_n (k := p + 1) (by omega), ix_n (n := p + 1) (by omega)]
  refine ⟨by omega, ?_⟩
  generalize xs (p + 1) = x
  unfold f_L_orderAt f_X8_orderAt f_X9_orderAt
  have w1 := hS.1.1.1.2.1.1
  have w2 := hS.1.1.1.2.1.2.1
  obtain ⟨Q, hQ, hv, hv0, hb0, hb⟩ := hS.2.2.1.2.1.fa hS.1.1.1.2.1
  refine s_numberAt hS.2.1.1.2.1 x ?_
  have en := hQ.at x.toInt
  have o1 : I 191 2 = nI (oc T.h.o) := hS.2.2.1.2.1.1
  cases e : rkdT Q (oc T.h.o) x.toInt with
  | none =>
    rw [e] at en
    have en : numO T.h.o x.toInt = none := en
    rw [en]
    refine s_found (fun j q => by cases q) (fun _ => ?_) (fun j q => by cases q)
    rw [if_pos rfl]
    refine m_ranked o1 w1 hv hb x ?_
    rw [e, optI_none, if_pos (by decide)]
    unfold f_X9_orderAt_b16
    refine m_fine0 ?_
    rw [if_pos (by decide)]
    unfold f_X9_thrown
    dsimp only
    rw [up2_same, if_pos rfl, if_neg (by decide)]
    exact l_3520 hX (hS.th _) (by omega)
  | some i =>
    rw [e] at en
    have en : numO T.h.o x.toInt = some (Q 0 i) := en
    have hi := firstN_lt e
    have bi := hb0 i hi
    rw [en]
    refine s_found (fun j q => by cases q; exact bi) (fun q => by cases q) (fun j q => ?_)
    cases q
    unfold wrL
    refine m_ranked o1 w1 hv hb x ?_
    have hng := n_neg (a := i) (by omega)
    rw [e, optI_some]
    simp only [hng, if_false]
    unfold f_X9_orderAt_b16
    refine m_fine1 ?_
    rw [if_neg (by decide)]
    refine m_o (by omega) (by omega) ?_
    unfold f_X9_thrown
    dsimp only
    rw [show (up2 I 190 0 (nI 0)) 191 (53 + 5 * i + 0) = nI (Q 0 i) by rw [up2_nea (by decide)]; exact hv0 i hi, up2_same, if_pos rfl, if_pos (by decide)]
    rw [if_pos (by rw [up2_same]; exact lg_self _)]
    exact l_3520 hX (hS.th _) (by omega)
end Law
