/-! ===== TeaHouse$Orders over the state ===== -/
theorem n_pred {j : Nat} (h : 0 < j) : nI j + (-1) = nI (j - 1) := by
  rw [← n_sub (show 1 ≤ j by omega), Int32.sub_eq_add_neg]; rfl
theorem OR.same {I I' : IT} {a : Nat} {S : OS} (h : OR I a S) (e : ∀ q, a ≤ q → q < a + 6 → I' q = I q) : OR I' a S := by
  unfold OR
  rw [e a (by omega) (by omega), e (a + 1) (by omega) (by omega), e (a + 2) (by omega) (by omega), e (a + 3) (by omega) (by omega), e (a + 4) (by omega) (by omega), e (a + 5) (by omega) (by omega)]
  exact h
def oText (S : OS) (p : Nat) : List Nat := [35] ++ digs 10 (oF S 0 p) ++ [32, 116] ++ digs 10 (oF S 1 p) ++ [32] ++ digs 10 (oF S 2 p) ++ [120] ++ digs 10 (oF S 3 p) ++ [32, 112] ++ digs 10 (oF S 4 p)
/-- position k of a now holds what position i of b held -/
def mv5 (I I' : IT) (a k b i : Nat) : Prop := I' (a + 1) k = I (b + 1) i ∧ I' (a + 2) k = I (b + 2) i ∧ I' (a + 3) k = I (b + 3) i ∧ I' (a + 4) k = I (b + 4) i ∧ I' (a + 5) k = I (b + 5) i
section Ord
variable {I : IT} {a : Nat} {S : OS}
theorem s_cpO {K : IT → Prop} {b i j : Nat} (hd : a = b ∨ a + 6 ≤ b ∨ b + 6 ≤ a) (hi : i < 10) (hj : j < 10) (h : K (cpO I a b i j)) : f_X5_copyOrder a b (nI i) (nI j) I K := by
  unfold f_X5_copyOrder
  unfold cpO at h
  simp (disch := omega) only [ix_n, inr_n, wr, up2_nea]
  exact ⟨hi, hj, h⟩
theorem s_copyO {K : IT → Prop} {b : Nat} (hS : OR I b S) (hd : a + 6 ≤ b ∨ b + 6 ≤ a) (h : ∀ I', OR I' a S → Same I I' a 6 → K I') : f_X5_copyFrom a b I K := by
  have loop : ∀ n j I', j ≤ 10 → 10 - j < n → Same I I' a 6 → I' a 5 = I b 5 → I' a 6 = I b 6 → (∀ k, k < j → mv5 I I' a k b k) → f_X5_copyFrom_b18 a b K n (nI j) I' := by
    intro n
    induction n with
    | zero => intro j _ _ hn; omega
    | succ n ih =>
      intro j I' hj hn hs h0 h1 h5
      rw [f_X5_copyFrom_b18]
      simp (disch := omega) only [n_leP]
      by_cases e : j = 10
      · rw [if_pos (by omega)]
        obtain ⟨w, g1, g2, g3⟩ := hS
        refine h I' ⟨w, by rw [h0]; exact g1, by rw [h1]; exact g2, fun p hp => ?_⟩ hs
        have w1 := w.1
        obtain ⟨f1, f2, f3, f4, f5⟩ := h5 p (by omega)
        rw [f1, f2, f3, f4, f5]; exact g3 p hp
      · rw [if_neg (by omega)]
        refine s_cpO (by omega) (by omega) (by omega) ?_
        simp only [bnd, nI_add]
        refine ih (j + 1) _ (by omega) (by omega) (cpO_same hs) (by rw [cpO_hd]; exact h0) (by rw [cpO_hd]; exact h1) fun k hk => ?_
        by_cases e6 : k = j
        · subst e6
          have c := cpO_at (I := I') (i := k) (j := k) (show a = b ∨ a + 6 ≤ b ∨ b + 6 ≤ a by omega)
          rw [hs (b + 1) (by omega), hs (b + 2) (by omega), hs (b + 3) (by omega), hs (b + 4) (by omega), hs (b + 5) (by omega)] at c
          exact c
        · have := h5 k (by omega)
          unfold mv5
          simp only [cpO_ne e6]
          exact this
  unfold f_X5_copyFrom
  simp (disch := omega) only [wr, up2_nea]
  exact loop 4096 0 _ (by omega) (by omega) ((Same.rf.up (by omega) (by omega)).up (by omega) (by omega)) (by simp (disch := decide) only [up2_nej, up2_same]) (by simp (disch := decide) only [up2_same]) (fun k hk => by omega)
theorem s_find {K : Int32 → Prop} (hS : OR I a S) (x : Int32) (h : K (optI (findO S x.toInt))) : f_X5_find a x I K := by
  obtain ⟨w, g1, g2, g3⟩ := hS
  have w1 := w.1
  have loop : ∀ n j, j ≤ oc S → oc S - j < n → (∀ i, i < j → ¬ (oF S 0 i : Int) = x.toInt) → f_X5_find_b2 a x I K n (nI j) := by
    intro n
    induction n with
    | zero => intro j _ hn; omega
    | succ n ih =>
      intro j hj hn hno
      rw [f_X5_find_b2, g1]
      simp (disch := omega) only [n_leP]
      by_cases e : j = oc S
      · rw [if_pos (by omega)]
        have e2 : findO S x.toInt = none := firstN_none (fun i hi => hno i (by omega))
        rw [e2] at h; exact h
      · rw [if_neg (by omega)]
        have b := (w.2.2.1 j (by omega)).1
        have b2 := w.2.1
        simp (disch := omega) only [inr_n, ix_n, (g3 j (by omega)).1]
        refine ⟨by omega, ?_⟩
        by_cases q : (oF S 0 j : Int) = x.toInt
        · rw [if_pos (by rw [i32_eq, nI_toInt (by omega)]; exact q)]
          have e2 : findO S x.toInt = some j := firstN_hit (by omega) q hno
          rw [e2] at h; exact h
        · rw [if_neg (by rw [i32_eq, nI_toInt (by omega)]; exact q)]
          simp only [bnd, nI_add]
          refine ih (j + 1) (by omega) (by omega) (fun i hi => ?_)
          by_cases e3 : i = j
          · rw [e3]; exact q
          · exact hno i (by omega)
  exact loop 4096 0 (Nat.zero_le _) (by omega) (fun i hi => by omega)
theorem s_numberAt {K : Int32 → Prop} (hS : OR I a S) (x : Int32) (h : K (optI (numO S x.toInt))) : f_X5_numberAt a x I K := by
  obtain ⟨w, g1, g2, g3⟩ := hS
  have w1 := w.1
  unfold f_X5_numberAt
  rw [g1]
  simp (disch := omega) only [xz_lt, nx_le]
  unfold numO at h
  split
  · rw [if_neg (by omega)] at h; exact h
  · split
    · rw [if_neg (by omega)] at h; exact h
    · rw [if_pos (by omega)] at h
      obtain ⟨n, n1, n2, n3⟩ := x_nat (x := x) (by omega)
      rw [n3] at h
      subst n2
      simp (disch := omega) only [inr_n, ix_n, (g3 n (by omega)).1]
      exact ⟨by omega, h⟩
theorem findO_at {p : Nat} (w : OW S) (hp : p < oc S) : findO S (oF S 0 p) = some p :=
  firstN_hit hp rfl fun i hi e => by have := w.2.2.2.2 i p (by omega) hp (by omega); omega
theorem s_consistO {K : Int32 → Prop} (hS : OR I a S) (h : K (nI 1)) : f_X5_isConsistent a I K := by
  have g1 := hS.2.1
  have w1 := hS.1.1
  have loop : ∀ n j, j ≤ oc S → oc S - j < n → f_X5_isConsistent_b2 a I K n (nI j) := by
    intro n
    induction n with
    | zero => intro j _ hn; omega
    | succ n ih =>
      intro j hj hn
      rw [f_X5_isConsistent_b2, g1]
      simp (disch := omega) only [n_leP]
      by_cases e : j = oc S
      · rw [if_pos (by omega)]; exact h
      · rw [if_neg (by omega)]
        refine s_numberAt hS _ ?_
        have b := (hS.1.2.2.1 j (by omega)).1
        have b2 := hS.1.2.1
        have e1 : numO S ((nI j).toInt) = some (oF S 0 j) := by rw [nI_toInt (by omega)]; unfold numO; rw [if_pos (by omega)]; rfl
        rw [e1, optI_some]
        refine s_find hS _ ?_
        rw [nI_toInt (by omega), findO_at hS.1 (by omega), optI_some, if_pos rfl]
        simp only [bnd, nI_add]
        exact ih (j + 1) (by omega) (by omega)
  exact loop 4096 0 (Nat.zero_le _) (by omega)
theorem s_remove {K : IT → Prop} (hS : OR I a S) {r : Nat} (hr : r < oc S) (h : ∀ I', OR I' a (delO S r) → Same I I' a 6 → K I') : f_X5_remove a (nI r) I K := by
  obtain ⟨w, g1, g2, g3⟩ := hS
  have w1 := w.1
  have hw := delO_W w hr
  have loop : ∀ n j I', r ≤ j → j ≤ oc S - 1 → oc S - 1 - j < n → Same I I' a 6 → (∀ f, I' a f = I a f) → (∀ k, k < r → mv5 I I' a k a k) → (∀ k, r ≤ k → k < j → mv5 I I' a k a (k + 1)) → (∀ k, j ≤ k → mv5 I I' a k a k) → f_X5_remove_b15 a (nI r) K n (nI j) I' := by
    intro n
    induction n with
    | zero => intro j _ _ _ hn; omega
    | succ n ih =>
      intro j I' hrj hj hn hs h0 h1 h2 h3
      rw [f_X5_remove_b15, h0 5, g1, n_sub (by omega)]
      simp (disch := omega) only [n_leP]
      by_cases e : j = oc S - 1
      · rw [if_pos (by omega)]
        simp only [wr]
        refine h _ ⟨hw, up2_same, ?_, fun p hp => ?_⟩ (hs.up (by omega) (by omega))
        · rw [up2_nej (by decide), h0 6]; exact g2
        · have hp : p < oc S - 1 := hp
          simp (disch := omega) only [up2_nea]
          by_cases q : r ≤ p
          · obtain ⟨f1, f2, f3, f4, f5⟩ := h2 p q (by omega)
            have := g3 (p + 1) (by omega)
            simp only [delO, oF_mk, if_pos q]
            rw [f1, f2, f3, f4, f5]; exact this
          · obtain ⟨f1, f2, f3, f4, f5⟩ := h1 p (by omega)
            have := g3 p (by omega)
            simp only [delO, oF_mk, if_neg q]
            rw [f1, f2, f3, f4, f5]; exact this
      · rw [if_neg (by omega)]
        rw [nI_add]
        refine s_cpO (Or.inl rfl) (by omega) (by omega) ?_
        simp only [bnd]
        refine ih (j + 1) _ (by omega) (by omega) (by omega) (cpO_same hs) (fun f => by rw [cpO_hd]; exact h0 f) (fun k hk => ?_) (fun k hk1 hk2 => ?_) (fun k hk => ?_)
        · unfold mv5; simp only [cpO_ne (show k ≠ j by omega)]; exact h1 k hk
        · by_cases e6 : k = j
          · subst e6
            have c := cpO_at (I := I') (a := a) (b := a) (i := k + 1) (j := k) (Or.inl rfl)
            obtain ⟨f1, f2, f3, f4, f5⟩ := h3 (k + 1) (by omega)
            rw [f1, f2, f3, f4, f5] at c
            exact c
          · unfold mv5; simp only [cpO_ne e6]; exact h2 k hk1 (by omega)
        · unfold mv5; simp only [cpO_ne (show k ≠ j by omega)]; exact h3 k (by omega)
  unfold f_X5_remove
  rw [g1]
  simp (disch := omega) only [n_neg, n_ltP]
  rw [if_neg (fun q => q), if_pos hr]
  have rf : ∀ k, mv5 I I a k a k := fun k => ⟨rfl, rfl, rfl, rfl, rfl⟩
  exact loop 4096 r I (Nat.le_refl _) (by omega) (by omega) Same.rf (fun _ => rfl) (fun k _ => rf k) (fun k _ _ => by omega) (fun k _ => rf k)
theorem s_addO {K : Int32 → IT → Prop} (hS : OR I a S) {t c m p : Nat} (hc : oc S < 10) (hn : onx S + 1 < 2 ^ 30) (b1 : t ≤ 9) (b2 : 1 ≤ c) (b3 : c ≤ 6) (b4 : 60 ≤ m) (b5 : m ≤ 100) (b6 : 1 ≤ p) (b7 : p ≤ 9) (h : ∀ I', OR I' a (addO S t c m p) → Same I I' a 6 → K (nI (onx S)) I') : f_X5_add a (nI t) (nI c) (nI m) (nI p) I K := by
  obtain ⟨w, g1, g2, g3⟩ := hS
  have hw := addO_W w hc hn b1 b2 b3 b4 b5 b6 b7
  have fin : ∀ I', Same I I' a 6 → (∀ f, I' a f = I a f) → (∀ k, k < insP (oF S 4) p (oc S) → mv5 I I' a k a k) → (∀ k, insP (oF S 4) p (oc S) < k → k ≤ oc S → mv5 I I' a k a (k - 1)) → f_X5_add_b53 a (nI t) (nI c) (nI m) (nI p) K (nI (insP (oF S 4) p (oc S))) I' := by
    intro I' hs h0 h1 h2
    have hle := insP_le (oF S 4) p (oc S)
    have hF : ∀ f q, oF (addO S t c m p) f q = if q < insP (oF S 4) p (oc S) then oF S f q else if q = insP (oF S 4) p (oc S) then (if f = 0 then onx S else if f = 1 then t else if f = 2 then c else if f = 3 then m else p) else oF S f (q - 1) := fun f q => rfl
    generalize insP (oF S 4) p (oc S) = ip at *
    unfold f_X5_add_b53
    simp (disch := omega) only [inr_n, ix_n, wr, up2_nea, h0 6, h0 5, g1, g2, nI_add]
    refine ⟨by omega, ?_⟩
    simp (disch := first | omega | decide) only [up2_nea, up2_nej, up2_same, g1, g2, h0 6, h0 5, nI_add]
    refine h _ ⟨hw, ?_, ?_, fun q hq => ?_⟩ ?_
    · simp (disch := first | omega | decide) only [up2_nea, up2_nej, up2_same]; rfl
    · simp (disch := first | omega | decide) only [up2_nea, up2_nej, up2_same]; rfl
    · have hq : q < oc S + 1 := hq
      simp only [hF]
      by_cases e1 : q < ip
      · simp only [if_pos e1]
        obtain ⟨f1, f2, f3, f4, f5⟩ := h1 q e1
        simp (disch := omega) only [up2_nea, up2_nej, f1, f2, f3, f4, f5]
        exact g3 q (by omega)
      · simp only [if_neg e1]
        by_cases e2 : q = ip
        · subst e2
          simp (disch := omega) only [up2_nea, up2_same]
          simp
        · simp only [if_neg e2]
          obtain ⟨f1, f2, f3, f4, f5⟩ := h2 q (by omega) (by omega)
          simp (disch := omega) only [up2_nea, up2_nej, f1, f2, f3, f4, f5]
          exact g3 (q - 1) (by omega)
    · repeat (first | exact hs | refine Same.up ?_ (by omega) (by omega))
  have loop : ∀ n j I', j ≤ oc S → j < n → Same I I' a 6 → (∀ f, I' a f = I a f) → insP (oF S 4) p (oc S) = insP (oF S 4) p j → (∀ k, k ≤ j → k < oc S → mv5 I I' a k a k) → (∀ k, j < k → k ≤ oc S → mv5 I I' a k a (k - 1)) → f_X5_add_b17 a (nI t) (nI c) (nI m) (nI p) (fun y0_0 I0_ => f_X5_add_b53 a (nI t) (nI c) (nI m) (nI p) K y0_0 I0_) K n (nI j) I' := by
    intro n
    induction n with
    | zero => intro j _ _ hn; omega
    | succ n ih =>
      intro j I' hj hn hs h0 hip h1 h2
      rw [f_X5_add_b17]
      simp (disch := omega) only [n_le0]
      cases j with
      | zero =>
        rw [if_pos rfl]
        have e : insP (oF S 4) p (oc S) = 0 := hip
        have := fin I' hs h0 (fun k hk => by omega) (fun k hk1 hk2 => h2 k (by omega) hk2)
        rw [e] at this; exact this
      | succ j =>
        rw [if_neg (by omega), n_sub (by omega), Nat.add_sub_cancel]
        obtain ⟨f1, f2, f3, f4, f5⟩ := h1 j (by omega) (by omega)
        have hb := (w.2.2.1 j (by omega))
        simp (disch := omega) only [inr_n, ix_n, f5, (g3 j (by omega)).2.2.2.2, n_leP]
        refine ⟨by omega, ?_⟩
        by_cases q : oF S 4 j < p
        · rw [if_neg (by omega)]
          have e : insP (oF S 4) p (j + 1) = insP (oF S 4) p j := by simp only [insP]; rw [if_pos q]
          refine s_cpO (Or.inl rfl) (by omega) (by omega) ?_
          simp only [bnd]
          rw [n_pred (by omega), Nat.add_sub_cancel]
          refine ih j _ (by omega) (by omega) (cpO_same hs) (fun f => by rw [cpO_hd]; exact h0 f) (by rw [hip, e]) (fun k hk hk2 => ?_) (fun k hk1 hk2 => ?_)
          · unfold mv5; simp only [cpO_ne (show k ≠ j + 1 by omega)]; exact h1 k (by omega) hk2
          · by_cases e6 : k = j + 1
            · subst e6
              have cc := cpO_at (I := I') (a := a) (b := a) (i := j) (j := j + 1) (Or.inl rfl)
              rw [f1, f2, f3, f4, f5] at cc
              exact cc
            · unfold mv5; simp only [cpO_ne e6]; exact h2 k (by omega) hk2
        · rw [if_pos (by omega)]
          have e : insP (oF S 4) p (oc S) = j + 1 := by rw [hip]; simp only [insP]; rw [if_neg q]
          have := fin I' hs h0 (fun k hk => h1 k (by omega) (by omega)) (fun k hk1 hk2 => h2 k (by omega) hk2)
          rw [e] at this; exact this
  unfold f_X5_add
  rw [g1]
  simp (disch := omega) only [n_ltP]
  rw [if_pos hc]
  have rf : ∀ k, mv5 I I a k a k := fun k => ⟨rfl, rfl, rfl, rfl, rfl⟩
  exact loop 4096 (oc S) I (Nat.le_refl _) (by omega) Same.rf (fun _ => rfl) rfl (fun k _ _ => rf k) (fun k _ _ => by omega)
theorem s_descO {K : IT → Prop} (hS : OR I a S) (ha : a + 6 ≤ 60 ∨ 62 ≤ a) {p : Nat} (hp : p < oc S) (hl : LN I []) (h : ∀ I', LN I' (oText S p) → Same I I' 60 2 → K I') : f_X5_describe a (nI p) I K := by
  obtain ⟨w, g1, g2, g3⟩ := hS
  obtain ⟨v1, v2, v3, v4, v5⟩ := g3 p hp
  have b := w.2.2.1 p hp
  have b2 := w.2.1
  have w1 := w.1
  have d1 := digs_len 10 (oF S 0 p)
  have d2 := digs_len 10 (oF S 1 p)
  have d3 := digs_len 10 (oF S 2 p)
  have d4 := digs_len 10 (oF S 3 p)
  have d5 := digs_len 10 (oF S 4 p)
  unfold f_X5_describe
  refine s_chr hl Same.rf (by decide) (by simp) fun I1 l1 m1 => ?_
  simp (disch := omega) only [inr_n, ix_n]
  refine ⟨by omega, ?_⟩
  rw [m1 (a + 1) (by omega), v1]
  refine s_num l1 m1 (by omega) (by simp) fun I2 l2 m2 => ?_
  refine s_str (s := [32, 116]) l2 m2 rfl (by decide) (by simp; omega) fun I3 l3 m3 => ?_
  rw [m3 (a + 2) (by omega), v2]
  refine s_num l3 m3 (by omega) (by simp; omega) fun I4 l4 m4 => ?_
  refine s_chr l4 m4 (by decide) (by simp; omega) fun I5 l5 m5 => ?_
  rw [m5 (a + 3) (by omega), v3]
  refine s_num l5 m5 (by omega) (by simp; omega) fun I6 l6 m6 => ?_
  refine s_chr l6 m6 (by decide) (by simp; omega) fun I7 l7 m7 => ?_
  rw [m7 (a + 4) (by omega), v4]
  refine s_num l7 m7 (by omega) (by simp; omega) fun I8 l8 m8 => ?_
  refine s_str (s := [32, 112]) l8 m8 rfl (by decide) (by simp; omega) fun I9 l9 m9 => ?_
  rw [m9 (a + 5) (by omega), v5]
  refine s_num l9 m9 (by omega) (by simp; omega) fun I10 l10 m10 => ?_
  exact h _ (by simpa [oText] using l10) m10
end Ord
