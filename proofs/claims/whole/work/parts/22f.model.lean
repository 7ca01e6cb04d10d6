/-! ===== the reference's minutes ===== -/
theorem KW.pass {S : KS} (w : KW S) {k : Nat} : KW (passK S k) := by
  obtain ⟨w1, w2⟩ := w
  have b1 : boiN S k ≤ 1 := by unfold boiN; split <;> omega
  have b2 : 40 ≤ tmpN S k ∧ tmpN S k ≤ 200 := by unfold tmpN heatN; split <;> omega
  refine ⟨w1, fun j hj => ?_⟩
  have := w2 j hj
  by_cases e : j = k
  · subst e; simp only [passK, kc_mk, kcap_mk, kvol_mk, ktmp_mk, klev_mk, kboi_mk, setN_at]; omega
  · simp only [passK, kc_mk, kcap_mk, kvol_mk, ktmp_mk, klev_mk, kboi_mk, setN_ne e]; omega
def gw (P : HS × Nat) : Nat := if P.1.s 10 = 0 then 13 else 12
def withW (P : HS × Nat) : HS := P.1.ss (gw P) (P.1.s (gw P) + P.2)
theorem HW.step {P : HS × Nat} (w : HW P.1) {j : Nat} : HW (stepH P j).1 := ⟨w.1.pass, w.2.1, w.2.2⟩
section M
variable {I : IT}
theorem m_heats {K : Int32 → IT → Prop} {P : HS × Nat} (hM : HM (I 191) (withW P)) (w : HW P.1) (hs10 : P.1.s 10 ≤ 1) {j : Nat} (hj : j < kc P.1.k) (h : ∀ I', HM (I' 191) (withW (stepH P j)) → (∀ q, q ≠ 191 → I' q = I q) → (∀ q, 53 ≤ q → I' 191 q = I 191 q) → K (nI (if boiN P.1.k j = 1 ∧ kboi P.1.k j = 0 then 1 else 0)) I') : f_X9_heats (nI j) I K := by
  have kw1 := w.1.1
  have bj := w.1.2 j hj
  have hk := hM.1.2 j hj
  have hk : I 191 (33 + 5 * j) = nI (kcap P.1.k j) ∧ I 191 (33 + 5 * j + 1) = nI (kvol P.1.k j) ∧ I 191 (33 + 5 * j + 2) = nI (ktmp P.1.k j) ∧ I 191 (33 + 5 * j + 3) = nI (klev P.1.k j) ∧ I 191 (33 + 5 * j + 4) = nI (kboi P.1.k j) := hk
  obtain ⟨g1, g2, g3, g4, g5⟩ := hk
  have b1 : boiN P.1.k j ≤ 1 := by unfold boiN; split <;> omega
  have b2 : 40 ≤ tmpN P.1.k j ∧ tmpN P.1.k j ≤ 200 := by unfold tmpN heatN; split <;> omega
  have b3 := vap_le P.1.k j
  obtain ⟨s1, s2, s3, s4, s5, s6, s7, s8, s9, s10, s11⟩ := hM.2.2.2
  have hg : gw P = 13 ∧ P.1.s 10 = 0 ∨ gw P = 12 ∧ P.1.s 10 = 1 := by unfold gw; split <;> omega
  have ew : ∀ f, (withW P).s f = if f = gw P then P.1.s (gw P) + P.2 else P.1.s f := fun f => rfl
  have ev : ∀ f, (withW (stepH P j)).s f = if f = gw P then (if gw P = 5 then P.1.s 5 + vapN P.1.k j else if gw P = 4 then P.1.s 4 + vapN P.1.k j else P.1.s (gw P)) + (P.2 + if boiN P.1.k j = 1 ∧ kboi P.1.k j = 0 then 1 else 0) else if f = 5 then P.1.s 5 + vapN P.1.k j else if f = 4 then P.1.s 4 + vapN P.1.k j else P.1.s f := fun f => rfl
  have h5 : I 191 5 = nI (P.1.s 4) := by rw [s2, ew, if_neg (by omega)]
  have h6 : I 191 6 = nI (P.1.s 5) := by rw [s3, ew, if_neg (by omega)]
  have h11 : I 191 11 = nI (P.1.s 10) := by rw [s8, ew, if_neg (by omega)]
  -- the last part
  have fin : ∀ J : IT, (∀ q, q ≠ 191 → J q = I q) → (∀ q, q ≠ 33 + 5 * j + 1 → q ≠ 33 + 5 * j + 2 → q ≠ 33 + 5 * j + 4 → q ≠ 5 → q ≠ 6 → J 191 q = I 191 q) → J 191 (33 + 5 * j + 1) = nI (kvol P.1.k j - vapN P.1.k j) → J 191 (33 + 5 * j + 2) = nI (tmpN P.1.k j) → J 191 (33 + 5 * j + 4) = nI (boiN P.1.k j) → J 191 5 = nI (P.1.s 4 + vapN P.1.k j) → J 191 6 = nI (P.1.s 5 + vapN P.1.k j) → f_X9_heats_b196 (nI j) K (nI (if boiN P.1.k j = 1 ∧ kboi P.1.k j = 0 then 1 else 0)) J := by
    intro J a1 a2 c1 c2 c4 c5 c6
    have row : ∀ J2 : IT, (∀ q, q ≠ 191 → J2 q = J q) → (∀ q, q ≠ 15 → q ≠ 16 → J2 191 q = J 191 q) → J2 191 15 = nI ((withW (stepH P j)).s 12) → J2 191 16 = nI ((withW (stepH P j)).s 13) → HM (J2 191) (withW (stepH P j)) := by
      intro J2 d1 d2 d3 d4
      have z : ∀ q, q ≠ 33 + 5 * j + 1 → q ≠ 33 + 5 * j + 2 → q ≠ 33 + 5 * j + 4 → q ≠ 5 → q ≠ 6 → q ≠ 15 → q ≠ 16 → J2 191 q = I 191 q := fun q e1 e2 e3 e4 e5 e6 e7 => by rw [d2 q e6 e7]; exact a2 q e1 e2 e3 e4 e5
      refine ⟨⟨by rw [z 1 (by omega) (by omega) (by omega) (by omega) (by omega) (by omega) (by omega)]; exact hM.1.1, fun k hk => ?_⟩, hM.2.1.same w.2.1 (z _ (by omega) (by omega) (by omega) (by omega) (by omega) (by omega) (by omega)) (z _ (by omega) (by omega) (by omega) (by omega) (by omega) (by omega) (by omega)) (fun q a b => z q (by omega) (by omega) (by omega) (by omega) (by omega) (by omega) (by omega)), hM.2.2.1.same w.2.2 (z _ (by omega) (by omega) (by omega) (by omega) (by omega) (by omega) (by omega)) (fun q a b => z q (by omega) (by omega) (by omega) (by omega) (by omega) (by omega) (by omega)) (z _ (by omega) (by omega) (by omega) (by omega) (by omega) (by omega) (by omega)), ?_⟩
      · have hk : k < kc P.1.k := hk
        have y := hM.1.2 k hk
        have y : I 191 (33 + 5 * k) = nI (kcap P.1.k k) ∧ I 191 (33 + 5 * k + 1) = nI (kvol P.1.k k) ∧ I 191 (33 + 5 * k + 2) = nI (ktmp P.1.k k) ∧ I 191 (33 + 5 * k + 3) = nI (klev P.1.k k) ∧ I 191 (33 + 5 * k + 4) = nI (kboi P.1.k k) := y
        obtain ⟨y1, y2, y3, y4, y5⟩ := y
        show _ = nI (kcap P.1.k k) ∧ _ = nI (setN (kvol P.1.k) j (kvol P.1.k j - vapN P.1.k j) k) ∧ _ = nI (setN (ktmp P.1.k) j (tmpN P.1.k j) k) ∧ _ = nI (klev P.1.k k) ∧ _ = nI (setN (kboi P.1.k) j (boiN P.1.k j) k)
        by_cases e : k = j
        · subst e
          simp only [setN_at]
          rw [z (33 + 5 * k) (by omega) (by omega) (by omega) (by omega) (by omega) (by omega) (by omega), z (33 + 5 * k + 3) (by omega) (by omega) (by omega) (by omega) (by omega) (by omega) (by omega), d2 _ (by omega) (by omega), d2 _ (by omega) (by omega), d2 _ (by omega) (by omega)]
          exact ⟨y1, c1, c2, y4, c4⟩
        · simp only [setN_ne e]
          rw [z _ (by omega) (by omega) (by omega) (by omega) (by omega) (by omega) (by omega), z _ (by omega) (by omega) (by omega) (by omega) (by omega) (by omega) (by omega), z _ (by omega) (by omega) (by omega) (by omega) (by omega) (by omega) (by omega), z _ (by omega) (by omega) (by omega) (by omega) (by omega) (by omega) (by omega), z _ (by omega) (by omega) (by omega) (by omega) (by omega) (by omega) (by omega)]
          exact ⟨y1, y2, y3, y4, y5⟩
      · have one : ∀ q f, (q < 17 ∧ q ≠ 5 ∧ q ≠ 6 ∧ q ≠ 15 ∧ q ≠ 16) → f ≠ 12 → f ≠ 13 → f ≠ 4 → f ≠ 5 → ∀ g : Nat → Nat, I 191 q = nI (g ((withW P).s f)) → J2 191 q = nI (g ((withW (stepH P j)).s f)) := by
          intro q f hq e1 e2 e3 e4 g hh
          rw [z q (by omega) (by omega) (by omega) (by omega) (by omega) (by omega) (by omega), hh, ew, ev, if_neg (by omega), if_neg (by omega), if_neg (by omega), if_neg (by omega)]
        refine ⟨one 4 3 (by omega) (by omega) (by omega) (by omega) (by omega) (fun n => 20 - n) s1, ?_, ?_, one 7 6 (by omega) (by omega) (by omega) (by omega) (by omega) (fun n => n) s4, one 8 7 (by omega) (by omega) (by omega) (by omega) (by omega) (fun n => n) s5, one 9 8 (by omega) (by omega) (by omega) (by omega) (by omega) (fun n => n) s6, one 10 9 (by omega) (by omega) (by omega) (by omega) (by omega) (fun n => n) s7, one 11 10 (by omega) (by omega) (by omega) (by omega) (by omega) (fun n => n) s8, one 14 11 (by omega) (by omega) (by omega) (by omega) (by omega) (fun n => n) s9, d3, d4⟩
        · rw [d2 5 (by omega) (by omega), c5, ev, if_neg (by omega), if_neg (by omega), if_pos rfl]
        · rw [d2 6 (by omega) (by omega), c6, ev, if_neg (by omega), if_pos rfl]
    have ev12 := ev 12
    have ev13 := ev 13
    have ew12 := ew 12
    have ew13 := ew 13
    have j15 : J 191 15 = nI ((withW P).s 12) := by rw [a2 15 (by omega) (by omega) (by omega) (by omega) (by omega)]; exact s10
    have j16 : J 191 16 = nI ((withW P).s 13) := by rw [a2 16 (by omega) (by omega) (by omega) (by omega) (by omega)]; exact s11
    have j11 : J 191 11 = nI (P.1.s 10) := by rw [a2 11 (by omega) (by omega) (by omega) (by omega) (by omega)]; exact h11
    unfold f_X9_heats_b196
    by_cases c : boiN P.1.k j = 1 ∧ kboi P.1.k j = 0
    · rw [if_pos c] at h ev12 ev13 ⊢
      rw [if_neg (by rw [one_eq0]; exact id), j11]
      have hz := n_eqP (a := P.1.s 10) (b := 1) (by omega) (by omega)
      simp only [hz]
      split
      · next q =>
        have hg2 : gw P = 12 := by omega
        unfold f_X9_heats_b223 f_X9_heats_b228
        simp (disch := omega) only [inr_n, ix_n, wr_p]
        rw [j15, nI_add, if_neg (by rw [one_eq0]; exact id)]
        refine ⟨by omega, h _ (row _ (fun q hq => up2_ne hq) (fun q e1 e2 => by rw [up2_nej e1]) ?_ ?_) (fun q hq => by rw [up2_ne hq]; exact a1 q hq) (fun q hq => by rw [up2_nej (by omega)]; exact a2 q (by omega) (by omega) (by omega) (by omega) (by omega))⟩
        · rw [up2_same, ev12, ew12, if_pos hg2.symm, if_pos hg2.symm, if_neg (by omega), if_neg (by omega)]; rfl
        · rw [up2_nej (by decide), j16, ev13, ew13, if_neg (by omega), if_neg (by omega), if_neg (by omega), if_neg (by omega)]
      · next q =>
        have hg2 : gw P = 13 := by omega
        unfold f_X9_heats_b223 f_X9_heats_b228
        simp (disch := omega) only [inr_n, ix_n, wr_p]
        rw [j16, nI_add, if_neg (by rw [one_eq0]; exact id)]
        refine ⟨by omega, h _ (row _ (fun q hq => up2_ne hq) (fun q e1 e2 => by rw [up2_nej e2]) ?_ ?_) (fun q hq => by rw [up2_ne hq]; exact a1 q hq) (fun q hq => by rw [up2_nej (by omega)]; exact a2 q (by omega) (by omega) (by omega) (by omega) (by omega))⟩
        · rw [up2_nej (by decide), j15, ev12, ew12, if_neg (by omega), if_neg (by omega), if_neg (by omega), if_neg (by omega)]
        · rw [up2_same, ev13, ew13, if_pos hg2.symm, if_pos hg2.symm, if_neg (by omega), if_neg (by omega)]; rfl
    · rw [if_neg c] at h ev12 ev13 ⊢
      rw [if_pos (by decide)]
      unfold f_X9_heats_b228
      rw [if_pos (by decide)]
      refine h _ (row _ (fun q hq => rfl) (fun q e1 e2 => rfl) ?_ ?_) a1 (fun q hq => a2 q (by omega) (by omega) (by omega) (by omega) (by omega))
      · rw [j15, ev12, ew12]
        congr 1
        split
        · rw [if_neg (by omega), if_neg (by omega)]; omega
        · rw [if_neg (by omega), if_neg (by omega)]
      · rw [j16, ev13, ew13]
        congr 1
        split
        · rw [if_neg (by omega), if_neg (by omega)]; omega
        · rw [if_neg (by omega), if_neg (by omega)]
  -- volume and steam
  have p128 : ∀ v5, v5 = (if boiN P.1.k j = 1 ∧ kboi P.1.k j = 0 then 1 else 0) → f_X9_heats_b128 (nI j) K (nI (klev P.1.k j)) (nI (boiN P.1.k j)) (nI v5) (nI (boiN P.1.k j)) (up2 I 191 (33 + 5 * j + 2) (nI (tmpN P.1.k j))) := by
    intro v5 h5v
    unfold f_X9_heats_b128
    refine m_set (by omega) (by omega) ?_
    simp (disch := omega) only [n_eq0]
    have ev0 : vapN P.1.k j = if boiN P.1.k j = 1 then min (klev P.1.k j) (kvol P.1.k j) else 0 := rfl
    rw [h5v]
    split
    · next q =>
      rw [if_neg (by omega)] at ev0
      refine fin _ (fun q hq => by rw [up2_ne hq, up2_ne hq]) (fun q e1 e2 e3 e4 e5 => by rw [up2_nej e3, up2_nej e2]) ?_ ?_ up2_same ?_ ?_
      · rw [up2_nej (by omega), up2_nej (by omega), g2, ev0]; rfl
      · rw [up2_nej (by omega), up2_same]
      · rw [up2_nej (by omega), up2_nej (by omega), h5, ev0]; rfl
      · rw [up2_nej (by omega), up2_nej (by omega), h6, ev0]; rfl
    · next q =>
      rw [if_pos (by omega)] at ev0
      have p156 : f_X9_heats_b156 (nI j) K (nI (if boiN P.1.k j = 1 ∧ kboi P.1.k j = 0 then 1 else 0)) (nI (vapN P.1.k j)) (up2 (up2 I 191 (33 + 5 * j + 2) (nI (tmpN P.1.k j))) 191 (33 + 5 * j + 4) (nI (boiN P.1.k j))) := by
        unfold f_X9_heats_b156
        refine m_k (by omega) (by omega) ?_
        refine m_set (by omega) (by omega) ?_
        rw [up2_nej (by omega), up2_nej (by omega), g2, n_sub b3]
        simp only [wr_p]
        simp (disch := omega) only [up2_nej, h5, h6, nI_add]
        refine fin _ (fun q hq => by rw [up2_ne hq, up2_ne hq, up2_ne hq, up2_ne hq, up2_ne hq]) (fun q e1 e2 e3 e4 e5 => by rw [up2_nej e5, up2_nej e4, up2_nej e1, up2_nej e3, up2_nej e2]) ?_ ?_ ?_ ?_ up2_same
        · rw [up2_nej (by omega), up2_nej (by omega), up2_same]
        · rw [up2_nej (by omega), up2_nej (by omega), up2_nej (by omega), up2_nej (by omega), up2_same]
        · rw [up2_nej (by omega), up2_nej (by omega), up2_nej (by omega), up2_same]
        · rw [up2_nej (by omega), up2_same]
      have e2 : (up2 (up2 I 191 (33 + 5 * j + 2) (nI (tmpN P.1.k j))) 191 (33 + 5 * j + 4) (nI (boiN P.1.k j))) 191 (33 + 5 * j + 1) = nI (kvol P.1.k j) := by rw [up2_nej (by omega), up2_nej (by omega)]; exact g2
      refine m_k (by omega) (by omega) ?_
      rw [e2]
      simp (disch := omega) only [n_leP]
      split
      · next q2 =>
        refine m_k (by omega) (by omega) ?_
        rw [e2, show kvol P.1.k j = vapN P.1.k j by omega]
        exact p156
      · next q2 =>
        rw [show klev P.1.k j = vapN P.1.k j by omega]
        exact p156
  have p92 : f_X9_heats_b92 (nI j) K (nI (klev P.1.k j)) (nI (boiN P.1.k j)) (up2 I 191 (33 + 5 * j + 2) (nI (tmpN P.1.k j))) := by
    unfold f_X9_heats_b92
    simp (disch := omega) only [n_eq0]
    have q128 : ∀ v5, v5 = (if boiN P.1.k j = 1 ∧ kboi P.1.k j = 0 then 1 else 0) → f_X9_heats_b113 (nI j) K (nI (klev P.1.k j)) (nI (boiN P.1.k j)) (nI v5) (up2 I 191 (33 + 5 * j + 2) (nI (tmpN P.1.k j))) := by
      intro v5 hv5
      have := p128 v5 hv5
      unfold f_X9_heats_b113
      simp (disch := omega) only [n_eq0]
      rcases (show boiN P.1.k j = 0 ∨ boiN P.1.k j = 1 by omega) with q | q
      · rw [if_pos q]; rw [q] at this ⊢; exact this
      · rw [if_neg (by omega)]; rw [q] at this ⊢; exact this
    split
    · next q => unfold f_X9_heats_b112; exact q128 0 (by rw [if_neg (by omega)])
    · next q =>
      refine m_k (by omega) (by omega) ?_
      rw [up2_nej (by omega), g5]
      simp (disch := omega) only [n_eq0]
      split
      · next q2 => exact q128 1 (by rw [if_pos ⟨by omega, q2⟩])
      · next q2 => unfold f_X9_heats_b112; exact q128 0 (by rw [if_neg (fun z => q2 z.2)])
  have p59 : f_X9_heats_b59 (nI j) K (nI (klev P.1.k j)) (nI (tmpN P.1.k j)) I := by
    unfold f_X9_heats_b59
    refine m_set (by omega) (by omega) ?_
    refine m_k (by omega) (by omega) ?_
    rw [up2_nej (by omega), g2]
    have eb : boiN P.1.k j = if 0 < kvol P.1.k j ∧ tmpN P.1.k j = 200 ∧ 0 < klev P.1.k j then 1 else 0 := rfl
    simp (disch := omega) only [n_le0, n_eqP]
    unfold f_X9_heats_b91
    repeat' split
    all_goals first | (rw [if_pos (by omega)] at eb; rw [eb] at p92; exact p92) | (rw [if_neg (by omega)] at eb; rw [eb] at p92; exact p92)
  unfold f_X9_heats
  refine m_k (by omega) (by omega) ?_
  refine m_k (by omega) (by omega) ?_
  rw [g2, g4]
  simp (disch := omega) only [n_eq0]
  have et : tmpN P.1.k j = if kvol P.1.k j = 0 then 40 else heatN (ktmp P.1.k j) (klev P.1.k j) := rfl
  split
  · next q =>
    rw [if_pos q] at et
    rw [et] at p59
    unfold f_X9_heats_b33
    rw [if_pos (by decide), if_pos (by decide)]
    exact p59
  · next q =>
    rw [if_neg q] at et
    refine m_k (by omega) (by omega) ?_
    rw [g3, pk_mul, nI_add, n_sub (by omega)]
    unfold f_X9_heats_b33
    simp (disch := omega) only [n_leP]
    unfold heatN at et
    repeat' split
    · rw [show ktmp P.1.k j + 3 * klev P.1.k j - 1 = tmpN P.1.k j by omega]; exact p59
    · rw [show 200 = tmpN P.1.k j by omega]; exact p59
    · rw [show 40 = tmpN P.1.k j by omega]; exact p59
end M
