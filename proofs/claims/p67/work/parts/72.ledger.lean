/-! ===== TeaHouse$Ledger over the state ===== -/
def LR (I : IT) (a : Nat) (S : GS) : Prop := LW S ∧ I a 2 = nI (lc S) ∧ I a 3 = nI (lpr S) ∧ I a 4 = nI (lcu S) ∧ I a 5 = nI (lst S) ∧ (∀ k, k < lc S → I (a + 1) k = nI (lin S k)) ∧ ∀ k, k ≤ lc S → I (a + 2) k = nI (sumN (lin S) k)
theorem LR.same {I I' : IT} {a : Nat} {S : GS} (h : LR I a S) (e : ∀ q, a ≤ q → q < a + 3 → I' q = I q) : LR I' a S := by
  unfold LR
  rw [e a (by omega) (by omega), e (a + 1) (by omega) (by omega), e (a + 2) (by omega) (by omega)]
  exact h
theorem LW.sum_le {S : GS} (h : LW S) {k : Nat} (hk : k ≤ lc S) : sumN (lin S) k < 100000000 := by
  have := sumN_mono (f := lin S) hk
  have := h.2.1; have := h.2.2; omega
theorem LW.in_le {S : GS} (h : LW S) {k : Nat} (hk : k < lc S) : lin S k < 100000000 := by
  have := sumN_at (f := lin S) hk
  have := h.sum_le (Nat.le_refl _); omega
theorem LW.pr_le {S : GS} (h : LW S) : lpr S < 100000000 := by have := h.2.1; have := h.2.2; omega
/-- income from cups, from steam -/
def cupsL (S : GS) (m : Nat) : GS := (lc S, lpr S + m, lcu S + m, lst S, lin S)
def steamL (S : GS) (m : Nat) : GS := (lc S, lpr S + m, lcu S, lst S + m, lin S)
section Led
variable {I : IT} {a : Nat} {S : GS}
theorem s_enterCups {K : IT → Prop} (hS : LR I a S) {m : Nat} (hb : lcu S + m + lst S < 100000000) (h : ∀ I', LR I' a (cupsL S m) → Same I I' a 3 → K I') : f_X4_enterCups a (nI m) I K := by
  obtain ⟨⟨w1, w2, w3⟩, h2, h3, h4, h5, h6, h7⟩ := hS
  unfold f_X4_enterCups
  simp (disch := decide) only [wr, h3, h4, nI_add, up2_nej]
  refine h _ ⟨⟨w1, ?_, ?_⟩, ?_, ?_, ?_, ?_, fun k hk => ?_, fun k hk => ?_⟩ ((Same.rf.up (by omega) (by omega)).up (by omega) (by omega))
  · show sumN (lin S) (lc S) + (lpr S + m) = lcu S + m + lst S
    omega
  · show lcu S + m + lst S < 100000000
    omega
  · simp (disch := decide) only [up2_nej]; exact h2
  · simp (disch := decide) only [up2_nej, up2_same]; rfl
  · simp (disch := decide) only [up2_same]; rfl
  · simp (disch := decide) only [up2_nej]; exact h5
  · simp (disch := omega) only [up2_nea]; exact h6 k hk
  · simp (disch := omega) only [up2_nea]; exact h7 k hk
theorem s_enterSteam {K : IT → Prop} (hS : LR I a S) {m : Nat} (hb : lcu S + m + lst S < 100000000) (h : ∀ I', LR I' a (steamL S m) → Same I I' a 3 → K I') : f_X4_enterSteam a (nI m) I K := by
  obtain ⟨⟨w1, w2, w3⟩, h2, h3, h4, h5, h6, h7⟩ := hS
  unfold f_X4_enterSteam
  simp (disch := decide) only [wr, h3, h5, nI_add, up2_nej]
  refine h _ ⟨⟨w1, ?_, ?_⟩, ?_, ?_, ?_, ?_, fun k hk => ?_, fun k hk => ?_⟩ ((Same.rf.up (by omega) (by omega)).up (by omega) (by omega))
  · show sumN (lin S) (lc S) + (lpr S + m) = lcu S + (lst S + m)
    omega
  · show lcu S + (lst S + m) < 100000000
    omega
  · simp (disch := decide) only [up2_nej]; exact h2
  · simp (disch := decide) only [up2_nej, up2_same]; rfl
  · simp (disch := decide) only [up2_nej]; exact h4
  · simp (disch := decide) only [up2_same]; rfl
  · simp (disch := omega) only [up2_nea]; exact h6 k hk
  · simp (disch := omega) only [up2_nea]; exact h7 k hk
theorem s_enterNight {K : Int32 → IT → Prop} (hS : LR I a S) (hc : lc S < 14) (h : ∀ I', LR I' a (nightL S) → Same I I' a 3 → K (nI (lpr S)) I') : f_X4_enterNight a I K := by
  have hS0 := hS
  obtain ⟨w, h2, h3, h4, h5, h6, h7⟩ := hS
  have b1 := w.pr_le
  have b2 := w.sum_le (Nat.le_refl _)
  obtain ⟨w1, w2, w3⟩ := w
  unfold f_X4_enterNight
  simp (disch := omega) only [wr, bnd, h2, h3, n_ltP, ix_n, inr_n, up2_nea, nI_add, h7 (lc S) (Nat.le_refl _)]
  rw [if_pos hc]
  have hs : ∀ k, k ≤ lc S → sumN (setN (lin S) (lc S) (lpr S)) k = sumN (lin S) k := fun k hk => sumN_congr fun i hi => setN_ne (by omega)
  have hs2 : sumN (setN (lin S) (lc S) (lpr S)) (lc S + 1) = sumN (lin S) (lc S) + lpr S := by
    show sumN (setN (lin S) (lc S) (lpr S)) (lc S) + setN (lin S) (lc S) (lpr S) (lc S) = _
    rw [setN_at, hs _ (Nat.le_refl _)]
  refine ⟨hc, by omega, by omega, h _ ⟨⟨?_, ?_, ?_⟩, ?_, ?_, ?_, ?_, fun k hk => ?_, fun k hk => ?_⟩ ?_⟩
  · show lc S + 1 ≤ 14
    omega
  · show sumN (setN (lin S) (lc S) (lpr S)) (lc S + 1) + 0 = lcu S + lst S
    omega
  · exact w3
  · simp (disch := first | omega | decide) only [up2_nej, up2_nea, up2_same]; rfl
  · simp (disch := first | omega | decide) only [up2_nej, up2_nea, up2_same]; rfl
  · simp (disch := first | omega | decide) only [up2_nej, up2_nea]; exact h4
  · simp (disch := first | omega | decide) only [up2_nej, up2_nea]; exact h5
  · have hk : k < lc S + 1 := hk
    show _ = nI (setN (lin S) (lc S) (lpr S) k)
    by_cases e : k = lc S
    · subst e; simp (disch := omega) only [up2_nea, up2_same, setN_at]
    · simp (disch := first | omega | assumption) only [up2_nea, up2_nej, setN_ne e]; exact h6 k (by omega)
  · have hk : k ≤ lc S + 1 := hk
    show _ = nI (sumN (setN (lin S) (lc S) (lpr S)) k)
    by_cases e : k = lc S + 1
    · subst e; simp (disch := omega) only [up2_nea, up2_same, hs2]
    · simp (disch := first | omega | assumption) only [up2_nea, up2_nej]; rw [hs k (by omega)]; exact h7 k (by omega)
  · repeat (first | exact Same.rf | refine Same.up ?_ (by omega) (by omega))
theorem s_rankOfL {K : Int32 → Prop} (hS : LR I a S) {k : Nat} (hk : k < lc S) (h : K (nI (rankL (lin S) (lc S) k))) : f_X4_rankOf a (nI k) I K := by
  obtain ⟨w, h2, h3, h4, h5, h6, h7⟩ := hS
  have w1 := w.1
  have bk := w.in_le hk
  have loop : ∀ n j, j ≤ lc S → lc S - j < n → f_X4_rankOf_b4 a (nI k) I K n (nI (cntN (fun o => aheadL (lin S) o k) j)) (nI j) := by
    intro n
    induction n with
    | zero => intro j _ hn; omega
    | succ n ih =>
      intro j hj hn
      rw [f_X4_rankOf_b4, h2]
      simp (disch := omega) only [n_leP]
      by_cases e : j = lc S
      · rw [if_pos (by omega), e]; exact h
      · rw [if_neg (by omega)]
        have bj := w.in_le (k := j) (by omega)
        have h1 := ih (j + 1) (by omega) (by omega)
        simp only [cntN] at h1
        simp (disch := omega) only [ix_n, inr_n, h6 k hk, h6 j (by omega), n_ltP, n_eqP, n_leP, bnd, nI_add]
        refine ⟨by omega, by omega, ?_⟩
        repeat' split
        all_goals first | (rw [if_pos (show aheadL (lin S) j k by unfold aheadL; omega)] at h1; exact h1) | (rw [if_neg (show ¬ aheadL (lin S) j k by unfold aheadL; omega)] at h1; exact h1)
  exact loop 4096 0 (Nat.zero_le _) (by omega)
theorem s_rankedL {K : Int32 → Prop} (hS : LR I a S) (x : Int32) (h : K (optI (rankedL (lin S) (lc S) x.toInt))) : f_X4_ranked a x I K := by
  have h2 := hS.2.1
  have w1 := hS.1.1
  have loop : ∀ n j, j ≤ lc S → lc S - j < n → (∀ i, i < j → ¬ (rankL (lin S) (lc S) i : Int) = x.toInt) → f_X4_ranked_b2 a x I K n (nI j) := by
    intro n
    induction n with
    | zero => intro j _ hn; omega
    | succ n ih =>
      intro j hj hn hno
      rw [f_X4_ranked_b2, h2]
      simp (disch := omega) only [n_leP]
      by_cases e : j = lc S
      · rw [if_pos (by omega)]
        have e2 : rankedL (lin S) (lc S) x.toInt = none := firstN_none (fun i hi => hno i (by omega))
        rw [e2] at h; exact h
      · rw [if_neg (by omega)]
        refine s_rankOfL hS (by omega) ?_
        have hr := rankL_le (lin S) (lc S) j
        by_cases q : (rankL (lin S) (lc S) j : Int) = x.toInt
        · rw [if_pos (by rw [i32_eq, nI_toInt (by omega)]; exact q)]
          have e2 : rankedL (lin S) (lc S) x.toInt = some j := firstN_hit (by omega) q hno
          rw [e2] at h; exact h
        · rw [if_neg (by rw [i32_eq, nI_toInt (by omega)]; exact q)]
          simp only [bnd, nI_add]
          refine ih (j + 1) (by omega) (by omega) (fun i hi => ?_)
          by_cases e3 : i = j
          · rw [e3]; exact q
          · exact hno i (by omega)
  exact loop 4096 0 (Nat.zero_le _) (by omega) (fun i hi => by omega)
theorem run_le (hW : LW S) {k n : Nat} (h : k + n ≤ lc S) : sumN (fun i => lin S (k + i)) n < 100000000 := by
  have h1 := sumN_add (lin S) k n
  have h2 := hW.sum_le h
  omega
theorem gr_le (hW : LW S) {k n : Nat} (h : k + n ≤ lc S + 1) : grN (lin S) n k < 100000000 := by
  have h1 := grN_le (f := lin S) (n := n) (c := lc S) (k := k) h
  have h2 := hW.sum_le (Nat.le_refl _)
  omega
theorem s_grAdd {K : Int32 → Prop} (hS : LR I a S) {m : Nat} (hm : 1 ≤ m) (hm2 : m ≤ lc S) (h : K (nI (grN (lin S) m (lc S + 1 - m)))) : f_X4_greatestByAdding a (nI m) I K := by
  obtain ⟨w, h2, h3, h4, h5, h6, h7⟩ := hS
  have w1 := w.1
  have inner : ∀ (X : Int32 → Int32 → Prop) (g k : Nat), g < 100000000 → k + m ≤ lc S → X (nI (max g (sumN (fun i => lin S (k + i)) m))) (nI (k + 1)) → ∀ n j, j ≤ m → m - j < n → f_X4_greatestByAdding_b20 a (nI m) I X K n (nI g) (nI k) (nI (sumN (fun i => lin S (k + i)) j)) (nI (k + j)) := by
    intro X g k hg hk hX n
    induction n with
    | zero => intro j _ hn; omega
    | succ n ih =>
      intro j hj hn
      rw [f_X4_greatestByAdding_b20]
      simp only [nI_add, bnd]
      simp (disch := omega) only [n_leP]
      by_cases e : j = m
      · rw [if_pos (by omega), e]
        have := run_le w hk
        rw [max_nI (by omega) (by omega)]
        exact hX
      · rw [if_neg (by omega)]
        simp (disch := omega) only [inr_n, ix_n, h6 (k + j) (by omega), nI_add]
        exact ⟨by omega, ih (j + 1) (by omega) (by omega)⟩
  have loop : ∀ n j, j ≤ lc S + 1 - m → lc S + 1 - m - j < n → f_X4_greatestByAdding_b4 a (nI m) I K n (nI (grN (lin S) m j)) (nI j) := by
    intro n
    induction n with
    | zero => intro j _ hn; omega
    | succ n ih =>
      intro j hj hn
      rw [f_X4_greatestByAdding_b4, h2, n_sub hm2]
      simp (disch := omega) only [n_ltP]
      by_cases e : j = lc S + 1 - m
      · rw [if_pos (by omega), e]; exact h
      · rw [if_neg (by omega)]
        have := inner (fun y0_0 y0_1 => f_X4_greatestByAdding_b4 a (nI m) I K n y0_0 y0_1) (grN (lin S) m j) j (gr_le w (by omega)) (by omega) (ih (j + 1) (by omega) (by omega)) 4096 0 (by omega) (by omega)
        exact this
  exact loop 4096 0 (Nat.zero_le _) (by omega)
theorem s_grDiff {K : Int32 → Prop} (hS : LR I a S) {m : Nat} (hm : 1 ≤ m) (hm2 : m ≤ lc S) (h : K (nI (grN (lin S) m (lc S + 1 - m)))) : f_X4_greatestByDifferences a (nI m) I K := by
  obtain ⟨w, h2, h3, h4, h5, h6, h7⟩ := hS
  have w1 := w.1
  have loop : ∀ n j, j ≤ lc S + 1 - m → lc S + 1 - m - j < n → f_X4_greatestByDifferences_b4 a (nI m) I K n (nI (grN (lin S) m j)) (nI j) := by
    intro n
    induction n with
    | zero => intro j _ hn; omega
    | succ n ih =>
      intro j hj hn
      rw [f_X4_greatestByDifferences_b4, h2, n_sub hm2]
      simp (disch := omega) only [n_ltP]
      by_cases e : j = lc S + 1 - m
      · rw [if_pos (by omega), e]; exact h
      · rw [if_neg (by omega)]
        have hadd := sumN_add (lin S) j m
        have r1 := run_le w (k := j) (n := m) (by omega)
        have r2 := gr_le w (k := j) (n := m) (by omega)
        have i1 := ih (j + 1) (by omega) (by omega)
        simp only [grN] at i1
        simp (disch := omega) only [nI_add, bnd, inr_n, ix_n, h7 (j + m) (by omega), h7 j (by omega), n_sub]
        refine ⟨by omega, by omega, ?_⟩
        rw [show sumN (lin S) (j + m) - sumN (lin S) j = sumN (fun i => lin S (j + i)) m by omega, max_nI (by omega) (by omega)]
        exact i1
  exact loop 4096 0 (Nat.zero_le _) (by omega)
theorem s_totNights {K : Int32 → Prop} (hS : LR I a S) (h : K (nI (lcu S + lst S))) : f_X4_totalOfNights a I K := by
  obtain ⟨w, h2, h3, h4, h5, h6, h7⟩ := hS
  have w1 := w.1
  have w2 := w.2.1
  have loop : ∀ n j, j ≤ lc S → lc S - j < n → f_X4_totalOfNights_b7 a I K n (nI (lpr S + sumN (lin S) j)) (nI j) := by
    intro n
    induction n with
    | zero => intro j _ hn; omega
    | succ n ih =>
      intro j hj hn
      rw [f_X4_totalOfNights_b7, h2]
      simp (disch := omega) only [n_leP]
      by_cases e : j = lc S
      · rw [if_pos (by omega), e, show lpr S + sumN (lin S) (lc S) = lcu S + lst S by omega]; exact h
      · rw [if_neg (by omega)]
        have i1 := ih (j + 1) (by omega) (by omega)
        simp only [sumN, ← Nat.add_assoc] at i1
        simp (disch := omega) only [nI_add, bnd, inr_n, ix_n, h6 j (by omega)]
        exact ⟨by omega, i1⟩
  unfold f_X4_totalOfNights
  rw [h3]
  exact loop 4096 0 (Nat.zero_le _) (by omega)
theorem s_totSales {K : Int32 → Prop} (hS : LR I a S) (h : K (nI (lcu S + lst S))) : f_X4_totalOfSales a I K := by
  obtain ⟨w, h2, h3, h4, h5, h6, h7⟩ := hS
  unfold f_X4_totalOfSales
  rw [h4, h5, nI_add]; exact h
theorem s_consistL {K : Int32 → Prop} (hS : LR I a S) (h : K (nI 1)) : f_X4_isConsistent a I K := by
  have h2 := hS.2.1
  have w1 := hS.1.1
  have loop : ∀ n j, 1 ≤ j → j ≤ lc S + 1 → lc S + 1 - j < n → f_X4_isConsistent_b2 a I K n (nI j) := by
    intro n
    induction n with
    | zero => intro j _ _ hn; omega
    | succ n ih =>
      intro j hj0 hj hn
      rw [f_X4_isConsistent_b2, h2]
      simp (disch := omega) only [n_ltP]
      by_cases e : j = lc S + 1
      · rw [if_pos (by omega)]
        refine s_totNights hS ?_
        refine s_totSales hS ?_
        rw [if_pos rfl]; exact h
      · rw [if_neg (by omega)]
        refine s_grAdd hS hj0 (by omega) ?_
        refine s_grDiff hS hj0 (by omega) ?_
        rw [if_pos rfl]
        simp only [bnd, nI_add]
        exact ih (j + 1) (by omega) (by omega) (by omega)
  exact loop 4096 1 (by omega) (by omega) (by omega)
/-- the text of the ledger -/
def lText (f : Nat → Nat) : Nat → List Nat
  | 0 => []
  | n + 1 => lText f n ++ (if n = 0 then digs 10 (f n) else 32 :: digs 10 (f n))
theorem lText_len {f : Nat → Nat} : ∀ {n : Nat}, (∀ i, i < n → f i < 100000000) → (lText f n).length ≤ 9 * n
  | 0, _ => Nat.le_refl _
  | n + 1, h => by
    have h1 := lText_len (n := n) (fun i hi => h i (by omega))
    have h2 := digs_len2 7 10 (f n) (h n (by omega))
    simp only [lText, List.length_append]
    split
    · omega
    · simp only [List.length_cons]; omega
theorem s_descL {K : IT → Prop} (hS : LR I a S) (ha : a + 3 ≤ 60 ∨ 62 ≤ a) (hl : LN I []) (h : ∀ I', LN I' (lText (lin S) (lc S)) → Same I I' 60 2 → K I') : f_X4_describe a I K := by
  obtain ⟨w, h2, h3, h4, h5, h6, h7⟩ := hS
  have w1 := w.1
  have hin := fun k hk => w.in_le (k := k) hk
  have loop : ∀ n j I', j ≤ lc S → lc S - j < n → LN I' (lText (lin S) j) → Same I I' 60 2 → f_X4_describe_b2 a K n (nI j) I' := by
    intro n
    induction n with
    | zero => intro j _ _ hn; omega
    | succ n ih =>
      intro j I' hj hn hL hm
      rw [f_X4_describe_b2, hm a (by omega), h2]
      simp (disch := omega) only [n_leP]
      by_cases e : j = lc S
      · rw [if_pos (by omega)]; rw [e] at hL; exact h _ hL hm
      · rw [if_neg (by omega)]
        have t1 := lText_len (f := lin S) (n := j) (fun i hi => hin i (by omega))
        have bj := hin j (by omega)
        simp (disch := omega) only [n_le0, inr_n, ix_n, bnd, nI_add]
        split
        · next q =>
          refine ⟨by omega, ?_⟩
          rw [hm (a + 1) (by omega), h6 j (by omega)]
          refine s_num hL hm (by omega) (by omega) fun I2 l2 m2 => ih (j + 1) I2 (by omega) (by omega) ?_ m2
          simp only [lText]; rw [if_pos q]; exact l2
        · next q =>
          refine s_chr hL hm (by decide) (by omega) fun I2 l2 m2 => ⟨by omega, ?_⟩
          rw [m2 (a + 1) (by omega), h6 j (by omega)]
          refine s_num l2 m2 (by omega) (by simp; omega) fun I3 l3 m3 => ih (j + 1) I3 (by omega) (by omega) ?_ m3
          simp only [lText]; rw [if_neg q]
          rw [List.append_assoc] at l3; exact l3
  exact loop 15 0 I (Nat.zero_le _) (by omega) hl Same.rf
theorem s_copyL {K : IT → Prop} {b : Nat} (hS : LR I b S) (hd : a + 3 ≤ b ∨ b + 3 ≤ a) (hz : I (a + 2) 0 = nI 0) (h : ∀ I', LR I' a S → Same I I' a 3 → I' (a + 2) 0 = nI 0 → K I') : f_X4_copyFrom a b I K := by
  have loop : ∀ n j I', j ≤ 14 → 14 - j < n → Same I I' a 3 → (∀ f, 2 ≤ f → f ≤ 5 → I' a f = I b f) → (∀ k, k < j → I' (a + 1) k = I (b + 1) k) → (I' (a + 2) 0 = nI 0) → (∀ k, k < j → I' (a + 2) (k + 1) = I (b + 2) (k + 1)) → f_X4_copyFrom_b34 a b K n (nI j) I' := by
    intro n
    induction n with
    | zero => intro j _ _ hn; omega
    | succ n ih =>
      intro j I' hj hn hs h0 h5 hz' h6
      rw [f_X4_copyFrom_b34]
      simp (disch := omega) only [n_leP]
      by_cases e : j = 14
      · rw [if_pos (by omega)]
        obtain ⟨w, g2, g3, g4, g5, g6, g7⟩ := hS
        have w1 := w.1
        refine h I' ⟨w, by rw [h0 2 (by omega) (by omega)]; exact g2, by rw [h0 3 (by omega) (by omega)]; exact g3, by rw [h0 4 (by omega) (by omega)]; exact g4, by rw [h0 5 (by omega) (by omega)]; exact g5, fun k hk => by rw [h5 k (by omega)]; exact g6 k hk, fun k hk => ?_⟩ hs hz'
        cases k with
        | zero => exact hz'
        | succ k => rw [h6 k (by omega)]; exact g7 _ hk
      · rw [if_neg (by omega)]
        simp (disch := omega) only [ix_n, inr_n, wr, bnd, nI_add, up2_nea]
        refine ⟨by omega, by omega, ih (j + 1) _ (by omega) (by omega) ((hs.up (by omega) (by omega)).up (by omega) (by omega)) (fun f f1 f2 => ?_) (fun k hk => ?_) ?_ (fun k hk => ?_)⟩
        · simp (disch := omega) only [up2_nea]; exact h0 f f1 f2
        · by_cases e6 : k = j
          · subst e6; simp (disch := omega) only [up2_nea, up2_same]; rw [hs (b + 1) (by omega)]
          · simp (disch := first | omega | assumption) only [up2_nea, up2_nej]; exact h5 k (by omega)
        · simp (disch := omega) only [up2_nea, up2_nej]; exact hz'
        · by_cases e6 : k = j
          · subst e6; simp (disch := omega) only [up2_nea, up2_same]; rw [hs (b + 2) (by omega)]
          · simp (disch := omega) only [up2_nea, up2_nej]; exact h6 k (by omega)
  unfold f_X4_copyFrom
  simp (disch := omega) only [wr, up2_nea]
  refine loop 4096 0 _ (by omega) (by omega) ((((Same.rf.up (by omega) (by omega)).up (by omega) (by omega)).up (by omega) (by omega)).up (by omega) (by omega)) (fun f f1 f2 => ?_) (fun k hk => by omega) (by simp (disch := omega) only [up2_nea]; exact hz) (fun k hk => by omega)
  rcases (show f = 2 ∨ f = 3 ∨ f = 4 ∨ f = 5 by omega) with rfl | rfl | rfl | rfl <;> simp (disch := decide) only [up2_nej, up2_same]
end Led
