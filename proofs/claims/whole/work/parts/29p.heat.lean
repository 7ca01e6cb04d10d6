/-! ===== heating up ===== -/
/-- kettle k's n minutes -/
def pI (S : KS) (k : Nat) : Nat → KS
  | 0 => S
  | n + 1 => passK (pI S k n) k
theorem pI_kc (S : KS) (k : Nat) : ∀ n, kc (pI S k n) = kc S
  | 0 => rfl
  | n + 1 => pI_kc S k n
theorem pI_lev (S : KS) (k : Nat) : ∀ n, klev (pI S k n) = klev S
  | 0 => rfl
  | n + 1 => pI_lev S k n
theorem pI_boi (S : KS) (k n : Nat) : kboi (pI S k (n + 1)) k = boiN (pI S k n) k := setN_at _ _ _
theorem pI_vol (S : KS) (k n : Nat) : kvol (pI S k (n + 1)) k = kvol (pI S k n) k - vapN (pI S k n) k := setN_at _ _ _
theorem pI_tmp (S : KS) (k n : Nat) : ktmp (pI S k (n + 1)) k = tmpN (pI S k n) k := setN_at _ _ _
theorem pI_vol0 {S : KS} {k : Nat} (h : kvol S k = 0) : ∀ n, kvol (pI S k n) k = 0
  | 0 => h
  | n + 1 => by rw [pI_vol, pI_vol0 h n]; omega
theorem pI_no {S : KS} {k : Nat} (h : kvol S k = 0 ∨ klev S k = 0) (n : Nat) : kboi (pI S k (n + 1)) k ≠ 1 := by
  rw [pI_boi]
  have e : boiN (pI S k n) k = if 0 < kvol (pI S k n) k ∧ tmpN (pI S k n) k = 200 ∧ 0 < klev (pI S k n) k then 1 else 0 := rfl
  rw [e, if_neg]
  · decide
  · rcases h with h | h
    · rw [pI_vol0 h n]; omega
    · rw [pI_lev, h]; omega
theorem pI_up {S : KS} {k r : Nat} (h1 : 40 ≤ ktmp S k) (h2 : ktmp S k ≤ 200) (hv : 0 < kvol S k) (hl : klev S k ≤ 5) (hr : 3 * klev S k = r + 1) : ∀ n, (∀ j, 1 ≤ j → j ≤ n → ktmp S k + j * r < 200) → kvol (pI S k n) k = kvol S k ∧ ktmp (pI S k n) k = ktmp S k + n * r
  | 0, _ => ⟨rfl, by rw [Nat.zero_mul]; rfl⟩
  | n + 1, h => by
    obtain ⟨a, b⟩ := pI_up h1 h2 hv hl hr n (fun j x y => h j x (by omega))
    have hn := h (n + 1) (by omega) (by omega)
    have es : (n + 1) * r = n * r + r := Nat.succ_mul n r
    have et : tmpN (pI S k n) k = if kvol (pI S k n) k = 0 then 40 else heatN (ktmp (pI S k n) k) (klev (pI S k n) k) := rfl
    rw [pI_lev, a, b, if_neg (by omega)] at et
    have eh : heatN (ktmp S k + n * r) (klev S k) = max 40 (min 200 (ktmp S k + n * r + 3 * klev S k - 1)) := rfl
    rw [eh] at et
    generalize n * r = y at *
    generalize (n + 1) * r = z at *
    have eb : boiN (pI S k n) k = if 0 < kvol (pI S k n) k ∧ tmpN (pI S k n) k = 200 ∧ 0 < klev (pI S k n) k then 1 else 0 := rfl
    rw [if_neg (by omega)] at eb
    have ev : vapN (pI S k n) k = if boiN (pI S k n) k = 1 then min (klev (pI S k n) k) (kvol (pI S k n) k) else 0 := rfl
    rw [eb, if_neg (by decide)] at ev
    exact ⟨by rw [pI_vol, ev, a]; rfl, by rw [pI_tmp]; omega⟩
theorem pI_at {S : KS} {k r : Nat} (h1 : 40 ≤ ktmp S k) (h2 : ktmp S k ≤ 200) (hv : 0 < kvol S k) (hl0 : 0 < klev S k) (hl : klev S k ≤ 5) (hr : 3 * klev S k = r + 1) (n : Nat) (h : ∀ j, 1 ≤ j → j ≤ n → ktmp S k + j * r < 200) : kboi (pI S k (n + 1)) k = if 200 ≤ ktmp S k + (n + 1) * r then 1 else 0 := by
  obtain ⟨a, b⟩ := pI_up h1 h2 hv hl hr n h
  have es : (n + 1) * r = n * r + r := Nat.succ_mul n r
  have et : tmpN (pI S k n) k = if kvol (pI S k n) k = 0 then 40 else heatN (ktmp (pI S k n) k) (klev (pI S k n) k) := rfl
  rw [pI_lev, a, b, if_neg (by omega)] at et
  have eh : heatN (ktmp S k + n * r) (klev S k) = max 40 (min 200 (ktmp S k + n * r + 3 * klev S k - 1)) := rfl
  rw [eh] at et
  generalize n * r = y at *
  generalize (n + 1) * r = z at *
  have eb : boiN (pI S k n) k = if 0 < kvol (pI S k n) k ∧ tmpN (pI S k n) k = 200 ∧ 0 < klev (pI S k n) k then 1 else 0 := rfl
  rw [pI_lev, a] at eb
  rw [pI_boi]
  by_cases q : 200 ≤ ktmp S k + z
  · rw [if_pos q]; rw [if_pos (by omega)] at eb; exact eb
  · rw [if_neg q]; rw [if_neg (by omega)] at eb; exact eb
/-- the least minute, by a division -/
theorem ht_least {t r m : Nat} (h1 : 40 ≤ t) (h2 : t ≤ 200) (hr : r = 2 ∨ r = 5 ∨ r = 8 ∨ r = 11 ∨ r = 14) (hm : m = max 1 ((200 - t + r - 1) / r)) : (∀ j, 1 ≤ j → j < m → t + j * r < 200) ∧ 200 ≤ t + m * r ∧ 1 ≤ m ∧ m ≤ 120 := by
  rcases hr with rfl | rfl | rfl | rfl | rfl <;> refine ⟨fun j a b => ?_, ?_, ?_, ?_⟩ <;> omega
theorem pI_ht {S : KS} {k : Nat} (w : KW S) (hk : k < kc S) : (htK S k = none ∧ ∀ i, 1 ≤ i → kboi (pI S k i) k ≠ 1) ∨ ∃ m, htK S k = some m ∧ 1 ≤ m ∧ m ≤ 120 ∧ kboi (pI S k m) k = 1 ∧ ∀ i, 1 ≤ i → i < m → kboi (pI S k i) k ≠ 1 := by
  obtain ⟨u1, u2, u3, u4, u5, u6⟩ := w.2 k hk
  have e : htK S k = if kvol S k = 0 ∨ klev S k = 0 then none else some (max 1 ((200 - ktmp S k + (3 * klev S k - 1) - 1) / (3 * klev S k - 1))) := rfl
  by_cases q : kvol S k = 0 ∨ klev S k = 0
  · rw [if_pos q] at e
    refine Or.inl ⟨e, fun i hi => ?_⟩
    cases i with
    | zero => omega
    | succ i => exact pI_no q i
  · rw [if_neg q] at e
    refine Or.inr ⟨_, e, ?_⟩
    have hr : 3 * klev S k = (3 * klev S k - 1) + 1 := by omega
    obtain ⟨a, b, c, d⟩ := ht_least (t := ktmp S k) (r := 3 * klev S k - 1) u3 u4 (by omega) rfl
    generalize max 1 ((200 - ktmp S k + (3 * klev S k - 1) - 1) / (3 * klev S k - 1)) = m at *
    generalize 3 * klev S k - 1 = r at *
    have st : ∀ i, 1 ≤ i → i ≤ m → kboi (pI S k i) k = if 200 ≤ ktmp S k + i * r then 1 else 0 := fun i hi1 hi2 => by
      cases i with
      | zero => omega
      | succ i => exact pI_at u3 u4 (by omega) (by omega) u5 hr i (fun j x y => a j x (by omega))
    refine ⟨c, d, ?_, fun i x y => ?_⟩
    · rw [st m c (Nat.le_refl _), if_pos b]
    · rw [st i x (by omega), if_neg (by have := a i x y; omega)]; decide
section K
variable {I : IT} {S : KS}
theorem s_hotCopy {K : Int32 → IT → Prop} (hS : KR I 2 S) {k : Nat} (hk : k < kc S) (h : ∀ I', Same I I' 50 6 → K (optI (htK S k)) I') : f_X8_heatingTimeOnCopy (nI k) I K := by
  have w := hS.1
  have w1 := w.1
  have main : ∀ f j I', j ≤ 120 → 120 - j < f → KR I' 50 (pI S k j) → Same I I' 50 6 → (∀ i, 1 ≤ i → i ≤ j → kboi (pI S k i) k ≠ 1) → f_X8_heatingTimeOnCopy_b16 (nI k) K f (nI (j + 1)) I' := by
    intro f
    induction f with
    | zero => intro j I' _ hf; omega
    | succ f ih =>
      intro j I' hj hf hR hm hno
      rw [f_X8_heatingTimeOnCopy_b16]
      have g := n_ltP (a := 120) (b := j + 1) (by omega) (by omega)
      by_cases e : j = 120
      · rw [if_pos (by rw [g]; omega)]
        rcases pI_ht w hk with ⟨a, b⟩ | ⟨m, a, b, c, d, e2⟩
        · rw [a] at h; exact h I' hm
        · exact absurd d (hno m b (by omega))
      · rw [if_neg (by rw [g]; omega)]
        refine s_passMinute hR (by rw [pI_kc]; exact hk) fun I2 r2 m2 => ?_
        have r2 : KR I2 50 (pI S k (j + 1)) := r2
        have eb := (r2.2.2.1 k (by rw [pI_kc]; exact hk)).2.2.2.2
        have bb := (r2.1.2 k (by rw [pI_kc]; exact hk)).2.2.2.2.2
        rw [inr_n (by omega), ix_n (by omega), eb]
        have g2 := n_eq0 (a := kboi (pI S k (j + 1)) k) (by omega)
        refine ⟨by omega, ?_⟩
        by_cases q : kboi (pI S k (j + 1)) k = 0
        · rw [if_pos (by rw [g2]; exact q), bnd_p, nI_add]
          refine ih (j + 1) I2 (by omega) (by omega) r2 (hm.then m2) (fun i x y => ?_)
          by_cases e3 : i = j + 1
          · rw [e3, q]; decide
          · exact hno i x (by omega)
        · rw [if_neg (by rw [g2]; exact q)]
          rcases pI_ht w hk with ⟨a, b⟩ | ⟨m, a, b, c, d, e2⟩
          · exact absurd (show kboi (pI S k (j + 1)) k = 1 by omega) (b (j + 1) (by omega))
          · have em : m = j + 1 := by
              by_cases x : m < j + 1
              · exact absurd d (hno m b (by omega))
              · by_cases y : j + 1 < m
                · exact absurd (show kboi (pI S k (j + 1)) k = 1 by omega) (e2 (j + 1) (by omega) y)
                · omega
            rw [a, em] at h; exact h I2 (hm.then m2)
  unfold f_X8_heatingTimeOnCopy
  refine s_copyK (a := 50) hS (by omega) fun I1 k1 m1 => ?_
  exact main 4096 0 I1 (by omega) (by omega) k1 m1 (fun i x y => by omega)
theorem s_allHot {K : Int32 → IT → Prop} (hS : KR I 2 S) (h : ∀ I', Same I I' 50 6 → K (nI 1) I') : f_X8_allHeatingTimesAgree I K := by
  have w := hS.1
  have w1 := w.1
  have main : ∀ f j I', j ≤ kc S → kc S - j < f → Same I I' 50 6 → f_X8_allHeatingTimesAgree_b2 K f (nI j) I' := by
    intro f
    induction f with
    | zero => intro j I' _ hf; omega
    | succ f ih =>
      intro j I' hj hf hm
      have hR : KR I' 2 S := hS.same fun q a b => hm q (by omega)
      have e5 : I' 2 5 = nI (kc S) := hR.2.1
      rw [f_X8_allHeatingTimesAgree_b2, e5]
      have g := n_leP (a := kc S) (b := j) (by omega) (by omega)
      by_cases e : j = kc S
      · rw [if_pos (by rw [g]; omega)]; exact h I' hm
      · rw [if_neg (by rw [g]; omega)]
        refine s_heatingTime hR (by omega) ?_
        refine s_hotCopy hR (by omega) fun I2 m2 => ?_
        rw [if_pos rfl, bnd_p, nI_add]
        exact ih (j + 1) I2 (by omega) (by omega) (hm.then m2)
  exact main 4096 0 I (Nat.zero_le _) (by omega) Same.rf
end K
theorem m_mub {I : IT} {H : HS} (hM : HM (I 191) H) (w : HW H) (x : Int32) {Kx : Int32 → IT → Prop} (h0 : ¬ (0 ≤ x.toInt ∧ x.toInt < kc H.k) → Kx (nI 0) (up2 I 190 0 (nI 1))) (h1 : (0 ≤ x.toInt ∧ x.toInt < kc H.k) → htK H.k (ix x) = none → Kx (nI 0) (up2 I 190 0 (nI 2))) (h2 : ∀ m, (0 ≤ x.toInt ∧ x.toInt < kc H.k) → htK H.k (ix x) = some m → Kx (nI m) (up2 I 190 0 (nI 0))) : f_X9_minutesUntilBoiling x I Kx := by
  have w1 := w.1.1
  unfold f_X9_minutesUntilBoiling
  refine m_isKettle hM w x ?_
  simp only [zb_eq0]
  by_cases q : 0 ≤ x.toInt ∧ x.toInt < kc H.k
  · rw [if_neg (fun z => z q)]
    obtain ⟨x1, x2, x3⟩ := x_ix (x := x) (by omega)
    have h1' := h1 q
    have h2' := fun m => h2 m q
    clear h1 h2 h0
    have hk : ix x < kc H.k := by omega
    generalize ix x = k at *
    subst x1
    obtain ⟨v1, v2, v3, v4, v5⟩ := hM.1.2 k hk
    obtain ⟨u1, u2, u3, u4, u5, u6⟩ := w.1.2 k hk
    have e : htK H.k k = if kvol H.k k = 0 ∨ klev H.k k = 0 then none else some (max 1 ((200 - ktmp H.k k + (3 * klev H.k k - 1) - 1) / (3 * klev H.k k - 1))) := rfl
    have no : htK H.k k = none → f_X9_minutesUntilBoiling_b31 (nI k) Kx I := by
      intro z
      unfold f_X9_minutesUntilBoiling_b31 f_X9_minutesUntilBoiling_b36
      rw [wr_p, up2_same, if_neg (by decide)]
      exact h1' z
    refine m_k (by omega) (by omega) ?_
    rw [v2]
    have g1 := n_eq0 (a := kvol H.k k) (by omega)
    by_cases q1 : kvol H.k k = 0
    · rw [if_pos (by rw [g1]; exact q1)]; exact no (by rw [e, if_pos (Or.inl q1)])
    · rw [if_neg (by rw [g1]; exact q1)]
      refine m_k (by omega) (by omega) ?_
      rw [v4]
      have g2 := n_eq0 (a := klev H.k k) (by omega)
      by_cases q2 : klev H.k k = 0
      · rw [if_pos (by rw [g2]; exact q2)]; exact no (by rw [e, if_pos (Or.inr q2)])
      · rw [if_neg (by rw [g2]; exact q2)]
        rw [if_neg (by omega)] at e
        have h3 := h2' _ e
        clear h2'
        unfold f_X9_minutesUntilBoiling_b36
        rw [wr_p, up2_same, if_pos (by decide)]
        refine m_k (by omega) (by omega) ?_
        rw [up2_nea (by decide), v4, pk_mul, n_sub (by omega), bnd_p]
        refine m_k (by omega) (by omega) ?_
        have b : (200 - ktmp H.k k + (3 * klev H.k k - 1) - 1) / (3 * klev H.k k - 1) ≤ 200 := Nat.le_trans (Nat.div_le_self _ _) (by omega)
        have g3 := n_eq0 (a := 3 * klev H.k k - 1) (by omega)
        rw [up2_nea (by decide), v3, n_sub (by omega), nI_add, n_sub (by omega), n_div (by omega) (by omega) (by omega), bnd_p]
        refine ⟨by rw [g3]; omega, ?_⟩
        have g4 := n_leP (a := 1) (b := (200 - ktmp H.k k + (3 * klev H.k k - 1) - 1) / (3 * klev H.k k - 1)) (by omega) (by omega)
        generalize (200 - ktmp H.k k + (3 * klev H.k k - 1) - 1) / (3 * klev H.k k - 1) = y at *
        by_cases q3 : 1 ≤ y
        · rw [if_pos (by rw [g4]; exact q3)]
          rw [Nat.max_eq_right q3] at h3; exact h3
        · rw [if_neg (by rw [g4]; exact q3)]
          rw [Nat.max_eq_left (by omega)] at h3; exact h3
  · rw [if_pos q]
    unfold f_X9_minutesUntilBoiling_b36
    rw [wr_p, up2_same, if_neg (by decide)]
    exact h0 q
/-- what a copy of the kettles changes -/
theorem ST.cpy {I I' : IT} {T : TS} {t : Nat} (h : ST I T t) (m : Same I I' 50 6) : ST I' T t := by
  obtain ⟨w, hC, hM⟩ := h
  refine ⟨w, ?_, hM.same fun q hq => m q (by omega)⟩
  refine hC.alt (fun q a b => m q (by omega)) (fun j _ _ => by rw [m 0 (by omega)]) rfl rfl rfl rfl ?_ ?_ (hC.2.2.2.2.2.1.same (m 60 (by omega)) (m 61 (by omega))) ?_
  · rw [m 0 (by omega)]; exact hC.2.2.2.1
  · rw [m 0 (by omega)]; exact hC.2.2.2.2.1
  · rw [m 56 (by omega), m 57 (by omega)]; exact hC.2.2.2.2.2.2.1
