/-! ===== House.perform, all verbs; what the bounds become ===== -/
theorem unl_0 {p q : Prop} [Decidable p] [Decidable q] (h : unlN p q = 0) : p ∧ q := by
  unfold unlN at h
  by_cases e : p
  · rw [if_neg (fun z => z e)] at h
    by_cases e2 : q
    · exact ⟨e, e2⟩
    · rw [if_pos e2] at h; cases h
  · rw [if_pos e] at h; cases h
section Hou
variable {I I' : IT} {a : Nat} {H : HS}
theorem s_attend {K : Int32 → IT → Prop} (hR : HR I a H) (hs : H.s 10 ≤ 1) (v : Nat) (h : ∀ I', HR I' a (H.ss 10 v) → Same I I' a 16 → K (nI (H.s 10)) I') : f_X1_exchangeAttendant a (nI v) I K := by
  unfold f_X1_exchangeAttendant f_X1_exchangeAttendant_b12
  rw [hR.sc 10]
  simp (disch := omega) only [n_eq0, wr_p]
  have := h _ (hR.setS 10 v) (Same.rf.up (by omega) (by omega))
  split
  · next q => rw [q] at this; exact this
  · next q => rw [show H.s 10 = 1 by omega] at this; exact this
theorem s_perform {K : Int32 → IT → Prop} (hR : HR I a H) {t : Nat} (hT : HT t H) (ht : t ≤ 8000) {v : Nat} (hv : v < 13) (x y z u : Int32) (h0 : refN v H x.toInt y.toInt z.toInt u.toInt = 0) (hx : v = 11 → 0 ≤ x.toInt) (h : ∀ I', HR I' a (nxtN v H (ix x) (ix y) (ix z) (ix u)) → Same I I' a 16 → K (nI (resN v H (ix x) (ix y) (ix z) (ix u))) I') : f_X1_perform a (1000000 + v) x y z u I K := by
  unfold f_X1_perform
  have e : swmC (ix (nI (ordN (1000000 + v)))) = swmC v := by rw [ordN_at hv, ix_n (by omega)]
  rw [e]
  refine ⟨by rw [ordN_at hv, inr_n (by omega)]; exact hv, ?_⟩
  have kw := hR.1.1
  have ow := hR.2.1.1
  have lw := hR.2.2.1.1
  have t0 := hT
  obtain ⟨t1, t2, t3, t4, t5, t6, t7, t8, t9, t10, t11⟩ := hT
  have kw1 := kw.1
  have ow1 := ow.1
  have lw1 := lw.1
  rcases (show v = 0 ∨ v = 1 ∨ v = 2 ∨ v = 3 ∨ v = 4 ∨ v = 5 ∨ v = 6 ∨ v = 7 ∨ v = 8 ∨ v = 9 ∨ v = 10 ∨ v = 11 ∨ v = 12 by omega) with rfl | rfl | rfl | rfl | rfl | rfl | rfl | rfl | rfl | rfl | rfl | rfl | rfl
  · rw [if_pos (by decide)]
    obtain ⟨q1, q2⟩ := unl_0 (show unlN (2 ≤ x.toInt ∧ x.toInt ≤ 16) (kc H.k < 4) = 0 from h0)
    obtain ⟨x1, x2, x3⟩ := x_ix (x := x) (by omega)
    have hm : x * nI 2 = nI (2 * ix x) := by rw [x1, pk_mul, ix_n x3, Nat.mul_comm]
    rw [hm]
    exact s_add hR.1 (by omega) (by omega) q2 fun I' k' s' => h I' (hR.setK k' s') s'.wd
  · rw [if_neg (by decide), if_pos (by decide)]
    have e0 : (if 0 ≤ x.toInt ∧ x.toInt < kc H.k then unlN (1 ≤ y.toInt ∧ y.toInt ≤ 16) (kvol H.k x.toInt.toNat + 2 * y.toInt ≤ kcap H.k x.toInt.toNat) else 1) = 0 := h0
    by_cases hx : 0 ≤ x.toInt ∧ x.toInt < kc H.k
    · rw [if_pos hx] at e0
      obtain ⟨q1, q2⟩ := unl_0 e0
      obtain ⟨x1, x2, x3⟩ := x_ix (x := x) (by omega)
      obtain ⟨y1, y2, y3⟩ := x_ix (x := y) (by omega)
      rw [x2, Int.toNat_natCast] at q2
      have hm : y * nI 2 = nI (2 * ix y) := by rw [y1, pk_mul, ix_n y3, Nat.mul_comm]
      rw [hm, hR.sc 7, nI_add, wr_p]
      have g1 := hR.setS 7 (H.s 7 + 2 * ix y)
      have g2 := s_pourIn (K := fun x5 I6 => K x5 I6) g1.1 (k := ix x) (more := 2 * ix y) (show ix x < kc H.k by omega) (by omega) (show kvol H.k (ix x) + 2 * ix y ≤ kcap H.k (ix x) by omega) fun I' k' s' => h I' (g1.setK k' s') ((Same.rf.up (by omega) (by omega)).then s'.wd)
      rw [← x1] at g2
      exact g2
    · rw [if_neg hx] at e0; cases e0
  · rw [if_neg (by decide), if_neg (by decide), if_pos (by decide)]
    have e0 : (if 0 ≤ x.toInt ∧ x.toInt < kc H.k then unlN (0 ≤ y.toInt ∧ y.toInt ≤ 5) True else 1) = 0 := h0
    by_cases hx : 0 ≤ x.toInt ∧ x.toInt < kc H.k
    · rw [if_pos hx] at e0
      obtain ⟨q1, q2⟩ := unl_0 e0
      obtain ⟨x1, x2, x3⟩ := x_ix (x := x) (by omega)
      obtain ⟨y1, y2, y3⟩ := x_ix (x := y) (by omega)
      have g2 := s_turnBurner (K := fun x5 I6 => K x5 I6) hR.1 (k := ix x) (lev := ix y) (by omega) (by omega) fun I' k' s' => h I' (hR.setK k' s') s'.wd
      rw [← x1, ← y1] at g2
      exact g2
    · rw [if_neg hx] at e0; cases e0
  · rw [if_neg (by decide), if_neg (by decide), if_neg (by decide), if_pos (by decide)]
    obtain ⟨⟨q1, q2, q3, q4⟩, q5⟩ := unl_0 (show unlN ((0 ≤ x.toInt ∧ x.toInt ≤ 9) ∧ (1 ≤ y.toInt ∧ y.toInt ≤ 6) ∧ (60 ≤ z.toInt ∧ z.toInt ≤ 100) ∧ (1 ≤ u.toInt ∧ u.toInt ≤ 9)) (oc H.o < 10) = 0 from h0)
    obtain ⟨x1, x2, x3⟩ := x_ix (x := x) (by omega)
    obtain ⟨y1, y2, y3⟩ := x_ix (x := y) (by omega)
    obtain ⟨z1, z2, z3⟩ := x_ix (x := z) (by omega)
    obtain ⟨u1, u2, u3⟩ := x_ix (x := u) (by omega)
    have g2 := s_addO (K := fun x5 I6 => K x5 I6) hR.2.1 (t := ix x) (c := ix y) (m := ix z) (p := ix u) q5 (by omega) (by omega) (by omega) (by omega) (by omega) (by omega) (by omega) (by omega) fun I' k' s' => h I' (hR.setO k' s') s'.wd
    rw [← x1, ← y1, ← z1, ← u1] at g2
    exact g2
  · rw [if_neg (by decide), if_neg (by decide), if_neg (by decide), if_neg (by decide), if_pos (by decide)]
    have e0 : (if findO H.o x.toInt = none then 4 else 0) = 0 := h0
    refine s_find hR.2.1 x ?_
    cases ef : findO H.o x.toInt with
    | none => rw [ef] at e0; cases e0
    | some j =>
      have hj := firstN_lt ef
      have hp := (firstN_some ef).2.1
      obtain ⟨x1, x2, x3⟩ := x_ix (x := x) (by omega)
      rw [optI_some]
      refine s_remove hR.2.1 hj fun I' o' s' => ?_
      have g := hR.setO o' s'
      rw [g.oc]
      refine h I' ?_ s'.wd
      show HR I' a (H.so (delO H.o ((findO H.o (ix x : Int)).getD 0)))
      rw [← x2, ef]
      exact g
  · rw [if_neg (by decide), if_neg (by decide), if_neg (by decide), if_neg (by decide), if_neg (by decide), if_pos (by decide)]
    obtain ⟨-, q2⟩ := unl_0 (show unlN True (canN H) = 0 from h0)
    exact s_serve hR t0 ht q2 h
  · rw [if_neg (by decide), if_neg (by decide), if_neg (by decide), if_neg (by decide), if_neg (by decide), if_neg (by decide), if_pos (by decide)]
    obtain ⟨q1, q2⟩ := unl_0 (show unlN (1 ≤ x.toInt ∧ x.toInt ≤ 20) (x.toInt + H.s 3 ≤ 20) = 0 from h0)
    obtain ⟨x1, x2, x3⟩ := x_ix (x := x) (by omega)
    have e1 : I a 3 + x = nI (H.s 3 + ix x) := by rw [hR.sc 3, x1, nI_add, ix_n x3]
    rw [e1, wr_p, up2_same]
    exact h _ (hR.setS 3 _) (Same.rf.up (by omega) (by omega))
  · rw [if_neg (by decide), if_neg (by decide), if_neg (by decide), if_neg (by decide), if_neg (by decide), if_neg (by decide), if_neg (by decide), if_pos (by decide)]
    obtain ⟨q1, q2⟩ := unl_0 (show unlN (1 ≤ x.toInt ∧ x.toInt ≤ 80) (x.toInt ≤ H.s 4) = 0 from h0)
    obtain ⟨x1, x2, x3⟩ := x_ix (x := x) (by omega)
    have hb : ix x * H.s 9 ≤ 6400 := Nat.mul_le_mul (show ix x ≤ 80 by omega) t6.2
    unfold f_X1_sell
    have e1 : x * I a 9 = nI (ix x * H.s 9) := by
      rw [hR.sc 9]
      have := pk_mul (a := ix x) (b := H.s 9)
      rw [← x1] at this; exact this
    have e2 : I a 4 - x = nI (H.s 4 - ix x) := by
      rw [hR.sc 4]
      have := n_sub (a := H.s 4) (b := ix x) (by omega)
      rw [← x1] at this; exact this
    rw [e1, e2, bnd_p, wr_p]
    have g1 := hR.setS 4 (H.s 4 - ix x)
    exact s_enterSteam g1.2.2.1 (show lcu H.l + ix x * H.s 9 + lst H.l < 100000000 by omega) fun I' l' s' => h I' (g1.setL l' s') ((Same.rf.up (by omega) (by omega)).then s'.wd)
  · rw [if_neg (by decide), if_neg (by decide), if_neg (by decide), if_neg (by decide), if_neg (by decide), if_neg (by decide), if_neg (by decide), if_neg (by decide), if_pos (by decide)]
    obtain ⟨q1, q2⟩ := unl_0 (show unlN (1 ≤ x.toInt ∧ x.toInt ≤ 120) True = 0 from h0)
    obtain ⟨x1, x2, x3⟩ := x_ix (x := x) (by omega)
    have g2 := s_pass (K := fun x5 I6 => K x5 I6) hR t7 (m := ix x) (by omega) h
    rw [← x1] at g2
    exact g2
  · rw [if_neg (by decide), if_neg (by decide), if_neg (by decide), if_neg (by decide), if_neg (by decide), if_neg (by decide), if_neg (by decide), if_neg (by decide), if_neg (by decide), if_pos (by decide)]
    obtain ⟨q1, q2⟩ := unl_0 (show unlN (1 ≤ x.toInt ∧ x.toInt ≤ 80) True = 0 from h0)
    obtain ⟨x1, x2, x3⟩ := x_ix (x := x) (by omega)
    unfold f_X1_exchangeCupPrice
    have g := hR.setS 8 (ix x)
    rw [← x1] at g
    rw [bnd_p, hR.sc 8, wr_p]
    exact h _ g (Same.rf.up (by omega) (by omega))
  · rw [if_neg (by decide), if_neg (by decide), if_neg (by decide), if_neg (by decide), if_neg (by decide), if_neg (by decide), if_neg (by decide), if_neg (by decide), if_neg (by decide), if_neg (by decide), if_pos (by decide)]
    obtain ⟨q1, q2⟩ := unl_0 (show unlN (1 ≤ x.toInt ∧ x.toInt ≤ 80) True = 0 from h0)
    obtain ⟨x1, x2, x3⟩ := x_ix (x := x) (by omega)
    unfold f_X1_exchangeSteamPrice
    have g := hR.setS 9 (ix x)
    rw [← x1] at g
    rw [bnd_p, hR.sc 9, wr_p]
    exact h _ g (Same.rf.up (by omega) (by omega))
  · rw [if_neg (by decide), if_neg (by decide), if_neg (by decide), if_neg (by decide), if_neg (by decide), if_neg (by decide), if_neg (by decide), if_neg (by decide), if_neg (by decide), if_neg (by decide), if_neg (by decide), if_neg (by decide), if_pos (by decide)]
    obtain ⟨x1, x2, x3⟩ := x_ix (x := x) (hx rfl)
    have g : f_X1_exchangeAttendant a (nI (if ix x = 0 then 0 else 1)) I (fun x1 I2 => K x1 I2) := s_attend hR t7 _ h
    have hz : (x = 0) = (ix x = 0) := by
      have := n_eq0 x3
      rw [← x1] at this; exact this
    simp only [hz]
    unfold f_X1_perform_b212
    split
    · next q => rw [if_pos q] at g; exact g
    · next q => rw [if_neg q] at g; exact g
  · rw [if_neg (by decide), if_neg (by decide), if_neg (by decide), if_neg (by decide), if_neg (by decide), if_neg (by decide), if_neg (by decide), if_neg (by decide), if_neg (by decide), if_neg (by decide), if_neg (by decide), if_pos (by decide)]
    obtain ⟨-, q2⟩ := unl_0 (show unlN True (lc H.l < 14) = 0 from h0)
    unfold f_X1_perform_b216
    exact s_enterNight hR.2.2.1 q2 fun I' l' s' => h I' (hR.setL l' s') s'.wd
end Hou
/-! what the bounds become -/
theorem sumN_set {f : Nat → Nat} {k v : Nat} : ∀ {n : Nat}, k < n → sumN (setN f k v) n + f k = sumN f n + v
  | 0, h => by omega
  | n + 1, h => by
    simp only [sumN]
    by_cases e : k = n
    · subst e
      rw [setN_at, sumN_congr (f := setN f k v) (g := f) (fun i hi => setN_ne (by omega))]; omega
    · have := sumN_set (f := f) (k := k) (v := v) (n := n) (by omega)
      rw [setN_ne (by omega)]; omega
theorem vap_le (S : KS) (k : Nat) : vapN S k ≤ kvol S k := by unfold vapN; split <;> omega
/-- all but the prices, the night and the orders -/
def HP (t : Nat) (H H' : HS) : Prop := H'.s 3 = H.s 3 ∧ H'.s 4 ≤ H'.s 5 ∧ H'.s 7 = sumN (kvol H'.k) (kc H'.k) + H'.s 6 + H'.s 5 ∧ H'.s 7 = H.s 7 ∧ H'.s 8 = H.s 8 ∧ H'.s 9 = H.s 9 ∧ H'.s 10 = H.s 10 ∧ H'.s 11 = H.s 11 ∧ H'.s 12 = H.s 12 ∧ H'.s 13 = H.s 13 ∧ H'.l = H.l ∧ H'.o = H.o ∧ kc H'.k = kc H.k
theorem HP.step {t : Nat} {H : HS} {P : HS × Nat} (h : HP t H P.1) {j : Nat} (hj : j < kc H.k) : HP t H (stepH P j).1 ∧ (stepH P j).2 ≤ P.2 + 1 := by
  obtain ⟨h1, h2, h3, h4, h5, h6, h7, h8, h9, h10, h11, h12, h13⟩ := h
  have hs := sumN_set (f := kvol P.1.k) (k := j) (v := kvol P.1.k j - vapN P.1.k j) (n := kc P.1.k) (by omega)
  have hv := vap_le P.1.k j
  have e : ∀ f, (stepH P j).1.s f = if f = 5 then P.1.s 5 + vapN P.1.k j else if f = 4 then P.1.s 4 + vapN P.1.k j else P.1.s f := fun f => rfl
  have ek : kvol (stepH P j).1.k = setN (kvol P.1.k) j (kvol P.1.k j - vapN P.1.k j) := rfl
  have ec : kc (stepH P j).1.k = kc P.1.k := rfl
  refine ⟨⟨?_, ?_, ?_, ?_, ?_, ?_, ?_, ?_, ?_, ?_, h11, h12, h13⟩, ?_⟩
  · rw [e]; exact h1
  · simp only [e]; simp; omega
  · simp only [e, ek, ec]; simp; omega
  · rw [e]; exact h4
  · rw [e]; exact h5
  · rw [e]; exact h6
  · rw [e]; exact h7
  · rw [e]; exact h8
  · rw [e]; exact h9
  · rw [e]; exact h10
  · show P.2 + (if boiN P.1.k j = 1 ∧ kboi P.1.k j = 0 then 1 else 0) ≤ P.2 + 1
    split <;> omega
theorem HP.itK {t : Nat} {H : HS} : ∀ {r j : Nat} {P : HS × Nat}, HP t H P.1 → j + r ≤ kc H.k → HP t H (itK r j P).1 ∧ (itK r j P).2 ≤ P.2 + r
  | 0, _, _, h, _ => ⟨h, Nat.le_refl _⟩
  | r + 1, j, P, h, hj => by
    obtain ⟨g1, g2⟩ := h.step (j := j) (by omega)
    obtain ⟨g3, g4⟩ := HP.itK (r := r) (j := j + 1) g1 (by omega)
    exact ⟨g3, by show (Jvm.Pilot.CTeaHouseLaw_law_r3401_1c648a.itK r (j + 1) (stepH P j)).2 ≤ _; omega⟩
theorem HP.itM {t : Nat} {H : HS} (h4 : kc H.k ≤ 4) : ∀ {m : Nat} {P : HS × Nat}, HP t H P.1 → HP t H (itM m P).1 ∧ (itM m P).2 ≤ P.2 + 4 * m
  | 0, _, h => ⟨h, Nat.le_refl _⟩
  | m + 1, P, h => by
    have e := h.2.2.2.2.2.2.2.2.2.2.2.2
    obtain ⟨g1, g2⟩ := h.itK (r := kc P.1.k) (j := 0) (by omega)
    obtain ⟨g3, g4⟩ := HP.itM h4 (m := m) g1
    exact ⟨g3, by show (Jvm.Pilot.CTeaHouseLaw_law_r3401_1c648a.itM m (Jvm.Pilot.CTeaHouseLaw_law_r3401_1c648a.itK (kc P.1.k) 0 P)).2 ≤ _; omega⟩
theorem HT.next {t : Nat} {H : HS} (hT : HT t H) (kw : KW H.k) (ow : OW H.o) {v : Nat} (hv : v < 13) {x y z u : Int} (h0 : refN v H x y z u = 0) (hx : v = 11 → 0 ≤ x) : HT (t + 1) (nxtN v H x.toNat y.toNat z.toNat u.toNat) := by
  have t0 := hT
  obtain ⟨t1, t2, t3, t4, t5, t6, t7, t8, t9, t10, t11⟩ := hT
  have kw1 := kw.1
  rcases (show v = 0 ∨ v = 1 ∨ v = 2 ∨ v = 3 ∨ v = 4 ∨ v = 5 ∨ v = 6 ∨ v = 7 ∨ v = 8 ∨ v = 9 ∨ v = 10 ∨ v = 11 ∨ v = 12 by omega) with rfl | rfl | rfl | rfl | rfl | rfl | rfl | rfl | rfl | rfl | rfl | rfl | rfl
  · obtain ⟨q1, q2⟩ := unl_0 (show unlN (2 ≤ x ∧ x ≤ 16) (kc H.k < 4) = 0 from h0)
    show HT (t + 1) (H.sk (addK H.k (2 * x.toNat)))
    have e : sumN (setN (kvol H.k) (kc H.k) 0) (kc H.k + 1) = sumN (kvol H.k) (kc H.k) := by
      simp only [sumN, setN_at]
      exact sumN_congr fun i hi => setN_ne (by omega)
    refine ⟨t1, t2, ?_, by show H.s 7 ≤ _; omega, t5, t6, t7, by show H.s 11 ≤ _; omega, by show H.s 12 + H.s 13 ≤ _; omega, by show lcu H.l + lst H.l ≤ _; omega, by show onx H.o ≤ _; omega⟩
    show H.s 7 = sumN (setN (kvol H.k) (kc H.k) 0) (kc H.k + 1) + H.s 6 + H.s 5
    rw [e]; exact t3
  · have e0 : (if 0 ≤ x ∧ x < kc H.k then unlN (1 ≤ y ∧ y ≤ 16) (kvol H.k x.toNat + 2 * y ≤ kcap H.k x.toNat) else 1) = 0 := h0
    by_cases hx : 0 ≤ x ∧ x < kc H.k
    · rw [if_pos hx] at e0
      obtain ⟨q1, q2⟩ := unl_0 e0
      show HT (t + 1) ((H.ss 7 (H.s 7 + 2 * y.toNat)).sk (pourK H.k x.toNat (2 * y.toNat)))
      have e := sumN_set (f := kvol H.k) (k := x.toNat) (v := kvol H.k x.toNat + 2 * y.toNat) (n := kc H.k) (by omega)
      refine ⟨t1, t2, ?_, by show H.s 7 + 2 * y.toNat ≤ _; omega, t5, t6, t7, by show H.s 11 ≤ _; omega, by show H.s 12 + H.s 13 ≤ _; omega, by show lcu H.l + lst H.l ≤ _; omega, by show onx H.o ≤ _; omega⟩
      show H.s 7 + 2 * y.toNat = sumN (setN (kvol H.k) x.toNat (kvol H.k x.toNat + 2 * y.toNat)) (kc H.k) + H.s 6 + H.s 5
      omega
    · rw [if_neg hx] at e0; cases e0
  · exact ⟨t1, t2, t3, by show H.s 7 ≤ _; omega, t5, t6, t7, by show H.s 11 ≤ _; omega, by show H.s 12 + H.s 13 ≤ _; omega, by show lcu H.l + lst H.l ≤ _; omega, by show onx H.o ≤ _; omega⟩
  · exact ⟨t1, t2, t3, by show H.s 7 ≤ _; omega, t5, t6, t7, by show H.s 11 ≤ _; omega, by show H.s 12 + H.s 13 ≤ _; omega, by show lcu H.l + lst H.l ≤ _; omega, by show onx H.o + 1 ≤ _; omega⟩
  · exact ⟨t1, t2, t3, by show H.s 7 ≤ _; omega, t5, t6, t7, by show H.s 11 ≤ _; omega, by show H.s 12 + H.s 13 ≤ _; omega, by show lcu H.l + lst H.l ≤ _; omega, by show onx H.o ≤ _; omega⟩
  · obtain ⟨-, q2⟩ := unl_0 (show unlN True (canN H) = 0 from h0)
    show HT (t + 1) (serveH H)
    cases e : kffN H with
    | none => exact absurd e q2.1
    | some j =>
      obtain ⟨j1, j2⟩ := kff_lt e
      have b := ow.2.2.1 0 j1
      have c2 := q2.2
      have hm : oF H.o 2 0 * H.s 8 ≤ 480 := Nat.mul_le_mul (show oF H.o 2 0 ≤ 6 by omega) t5.2
      have hv := kff_vol e
      have e1 : serveH H = (((((H.sk (takeK H.k j (2 * oF H.o 2 0))).ss 6 (H.s 6 + 2 * oF H.o 2 0)).ss 3 (H.s 3 - oF H.o 2 0)).ss 11 (H.s 11 + 1)).sl (cupsL H.l (oF H.o 2 0 * H.s 8))).so (delO H.o 0) := by unfold serveH; rw [e]; rfl
      rw [e1]
      have es := sumN_set (f := kvol H.k) (k := j) (v := kvol H.k j - 2 * oF H.o 2 0) (n := kc H.k) (by omega)
      refine ⟨by show H.s 3 - oF H.o 2 0 ≤ 20; omega, t2, ?_, by show H.s 7 ≤ _; omega, t5, t6, t7, by show H.s 11 + 1 ≤ _; omega, by show H.s 12 + H.s 13 ≤ _; omega, by show (lcu H.l + oF H.o 2 0 * H.s 8) + lst H.l ≤ _; omega, by show onx H.o ≤ _; omega⟩
      show H.s 7 = sumN (setN (kvol H.k) j (kvol H.k j - 2 * oF H.o 2 0)) (kc H.k) + (H.s 6 + 2 * oF H.o 2 0) + H.s 5
      omega
  · obtain ⟨q1, q2⟩ := unl_0 (show unlN (1 ≤ x ∧ x ≤ 20) (x + H.s 3 ≤ 20) = 0 from h0)
    exact ⟨by show H.s 3 + x.toNat ≤ 20; omega, t2, t3, by show H.s 7 ≤ _; omega, t5, t6, t7, by show H.s 11 ≤ _; omega, by show H.s 12 + H.s 13 ≤ _; omega, by show lcu H.l + lst H.l ≤ _; omega, by show onx H.o ≤ _; omega⟩
  · obtain ⟨q1, q2⟩ := unl_0 (show unlN (1 ≤ x ∧ x ≤ 80) (x ≤ H.s 4) = 0 from h0)
    have hb : x.toNat * H.s 9 ≤ 6400 := Nat.mul_le_mul (show x.toNat ≤ 80 by omega) t6.2
    exact ⟨t1, by show H.s 4 - x.toNat ≤ H.s 5; omega, t3, by show H.s 7 ≤ _; omega, t5, t6, t7, by show H.s 11 ≤ _; omega, by show H.s 12 + H.s 13 ≤ _; omega, by show lcu H.l + (lst H.l + x.toNat * H.s 9) ≤ _; omega, by show onx H.o ≤ _; omega⟩
  · obtain ⟨q1, q2⟩ := unl_0 (show unlN (1 ≤ x ∧ x ≤ 120) True = 0 from h0)
    show HT (t + 1) (passH H x.toNat).1
    obtain ⟨g1, g2⟩ := HP.itM (t := t) (H := H) kw1 (m := x.toNat) (P := (H, 0)) ⟨rfl, t2, t3, rfl, rfl, rfl, rfl, rfl, rfl, rfl, rfl, rfl, rfl⟩
    have e : (passH H x.toNat).1 = (itM x.toNat (H, 0)).1.ss (if (itM x.toNat (H, 0)).1.s 10 = 0 then 13 else 12) ((itM x.toNat (H, 0)).1.s (if (itM x.toNat (H, 0)).1.s 10 = 0 then 13 else 12) + (itM x.toNat (H, 0)).2) := rfl
    rw [e]
    generalize itM x.toNat (H, 0) = P at *
    dsimp only at g2
    obtain ⟨h1, h2, h3, h4, h5, h6, h7, h8, h9, h10, h11, h12, h13⟩ := g1
    split
    · refine ⟨by show P.1.s 3 ≤ 20; omega, h2, h3, by show P.1.s 7 ≤ _; omega, by show 1 ≤ P.1.s 8 ∧ P.1.s 8 ≤ 80; omega, by show 1 ≤ P.1.s 9 ∧ P.1.s 9 ≤ 80; omega, by show P.1.s 10 ≤ 1; omega, by show P.1.s 11 ≤ _; omega, by show P.1.s 12 + (P.1.s 13 + P.2) ≤ _; omega, by show lcu P.1.l + lst P.1.l ≤ _; rw [h11]; omega, by show onx P.1.o ≤ _; rw [h12]; omega⟩
    · refine ⟨by show P.1.s 3 ≤ 20; omega, h2, h3, by show P.1.s 7 ≤ _; omega, by show 1 ≤ P.1.s 8 ∧ P.1.s 8 ≤ 80; omega, by show 1 ≤ P.1.s 9 ∧ P.1.s 9 ≤ 80; omega, by show P.1.s 10 ≤ 1; omega, by show P.1.s 11 ≤ _; omega, by show (P.1.s 12 + P.2) + P.1.s 13 ≤ _; omega, by show lcu P.1.l + lst P.1.l ≤ _; rw [h11]; omega, by show onx P.1.o ≤ _; rw [h12]; omega⟩
  · obtain ⟨q1, q2⟩ := unl_0 (show unlN (1 ≤ x ∧ x ≤ 80) True = 0 from h0)
    exact ⟨t1, t2, t3, by show H.s 7 ≤ _; omega, by show 1 ≤ x.toNat ∧ x.toNat ≤ 80; omega, t6, t7, by show H.s 11 ≤ _; omega, by show H.s 12 + H.s 13 ≤ _; omega, by show lcu H.l + lst H.l ≤ _; omega, by show onx H.o ≤ _; omega⟩
  · obtain ⟨q1, q2⟩ := unl_0 (show unlN (1 ≤ x ∧ x ≤ 80) True = 0 from h0)
    exact ⟨t1, t2, t3, by show H.s 7 ≤ _; omega, t5, by show 1 ≤ x.toNat ∧ x.toNat ≤ 80; omega, t7, by show H.s 11 ≤ _; omega, by show H.s 12 + H.s 13 ≤ _; omega, by show lcu H.l + lst H.l ≤ _; omega, by show onx H.o ≤ _; omega⟩
  · exact ⟨t1, t2, t3, by show H.s 7 ≤ _; omega, t5, t6, by show (if x.toNat = 0 then 0 else 1) ≤ 1; split <;> omega, by show H.s 11 ≤ _; omega, by show H.s 12 + H.s 13 ≤ _; omega, by show lcu H.l + lst H.l ≤ _; omega, by show onx H.o ≤ _; omega⟩
  · exact ⟨t1, t2, t3, by show H.s 7 ≤ _; omega, t5, t6, t7, by show H.s 11 ≤ _; omega, by show H.s 12 + H.s 13 ≤ _; omega, by show lcu H.l + lst H.l ≤ _; omega, by show onx H.o ≤ _; omega⟩
