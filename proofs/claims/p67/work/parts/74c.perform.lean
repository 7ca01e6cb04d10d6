/-! ===== House.perform ===== -/
theorem Same.wd {I I' : IT} {a b n m : Nat} (h : Same I I' b n) (h1 : a ≤ b := by omega) (h2 : b + n ≤ a + m := by omega) : Same I I' a m := fun q hq => h q (by omega)
theorem Same.then {I I' I2 : IT} {a n : Nat} (h : Same I I' a n) (h' : Same I' I2 a n) : Same I I2 a n := h.tr h' (by omega) (by omega)
theorem x_ix {x : Int32} (h : 0 ≤ x.toInt) : x = nI (ix x) ∧ x.toInt = (ix x : Int) ∧ ix x < 2147483648 := by
  obtain ⟨n, h1, h2, h3⟩ := x_nat h
  subst h2
  rw [ix_n h1]
  exact ⟨rfl, h3, h1⟩
section Hou
variable {I I' : IT} {a : Nat} {H : HS}
theorem HR.setK (h : HR I a H) {S : KS} (k : KR I' (a + 1) S) (s : Same I I' (a + 1) 6) : HR I' a (H.sk S) :=
  ⟨k, h.2.1.same fun q h1 h2 => s q (by omega), h.2.2.1.same fun q h1 h2 => s q (by omega), sc_ne h.2.2.2 (s a (by omega))⟩
theorem HR.setO (h : HR I a H) {S : OS} (k : OR I' (a + 7) S) (s : Same I I' (a + 7) 6) : HR I' a (H.so S) :=
  ⟨h.1.same fun q h1 h2 => s q (by omega), k, h.2.2.1.same fun q h1 h2 => s q (by omega), sc_ne h.2.2.2 (s a (by omega))⟩
theorem HR.setL (h : HR I a H) {S : GS} (k : LR I' (a + 13) S) (s : Same I I' (a + 13) 3) : HR I' a (H.sl S) :=
  ⟨h.1.same fun q h1 h2 => s q (by omega), h.2.1.same fun q h1 h2 => s q (by omega), k, sc_ne h.2.2.2 (s a (by omega))⟩
theorem HR.setS (h : HR I a H) (f v : Nat) : HR (up2 I a f (nI v)) a (H.ss f v) :=
  ⟨h.1.same fun q h1 h2 => up2_ne (by omega), h.2.1.same fun q h1 h2 => up2_ne (by omega), h.2.2.1.same fun q h1 h2 => up2_ne (by omega), sc_up h.2.2.2 f v⟩
theorem KR.take {S : KS} (hS : KR I a S) {k m : Nat} (hk : k < kc S) : KR (up2 I (a + 2) k (nI (kvol S k - m))) a (takeK S k m) := by
  obtain ⟨⟨w1, w2⟩, hc, hv, hz⟩ := hS
  refine ⟨⟨w1, fun j hj => ?_⟩, by rw [up2_nea (by omega)]; exact hc, fun j hj => ?_, fun j hj => by rw [up2_nea (by omega)]; exact hz j hj⟩
  · have := w2 j hj
    by_cases e : j = k
    · subst e; simp only [takeK, kc_mk, kcap_mk, kvol_mk, ktmp_mk, klev_mk, kboi_mk, setN_at]; omega
    · simp only [takeK, kc_mk, kcap_mk, kvol_mk, ktmp_mk, klev_mk, kboi_mk, setN_ne e]; omega
  · obtain ⟨z1, z2, z3, z4, z5⟩ := hv j hj
    by_cases e : j = k
    · subst e; simp (disch := omega) only [takeK, kc_mk, kcap_mk, kvol_mk, ktmp_mk, klev_mk, kboi_mk, setN_at, up2_nea, up2_same]; exact ⟨z1, trivial, z3, z4, z5⟩
    · simp (disch := first | omega | assumption) only [takeK, kc_mk, kcap_mk, kvol_mk, ktmp_mk, klev_mk, kboi_mk, setN_ne e, up2_nea, up2_nej]; exact ⟨z1, z2, z3, z4, z5⟩
theorem kff_vol {j : Nat} (e : kffN H = some j) : 2 * oF H.o 2 0 ≤ kvol H.k j := by
  unfold kffN at e
  have j1 : ¬ oc H.o = 0 := fun q => by rw [if_pos q] at e; cases e
  rw [if_neg j1] at e
  have : ∀ n, suitK H.k (oF H.o 2 0) (oF H.o 3 0) n = some j → 2 * oF H.o 2 0 ≤ kvol H.k j := by
    intro n
    induction n with
    | zero => intro q; cases q
    | succ n ih =>
      intro q
      have q2 : (if 2 * oF H.o 2 0 ≤ kvol H.k n ∧ suitT H.k (oF H.o 2 0) (oF H.o 3 0) n < ktmp H.k n then some n else suitK H.k (oF H.o 2 0) (oF H.o 3 0) n) = some j := q
      by_cases r : 2 * oF H.o 2 0 ≤ kvol H.k n ∧ suitT H.k (oF H.o 2 0) (oF H.o 3 0) n < ktmp H.k n
      · rw [if_pos r] at q2; cases q2; exact r.1
      · rw [if_neg r] at q2; exact ih q2
  exact this _ e
theorem s_serve {K : Int32 → IT → Prop} (hR : HR I a H) {t : Nat} (hT : HT t H) (ht : t ≤ 8000) (hc : canN H) (h : ∀ I', HR I' a (serveH H) → Same I I' a 16 → K (nI (oF H.o 0 0)) I') : f_X1_serveFirst a I K := by
  unfold f_X1_serveFirst
  refine s_kff hR ?_
  obtain ⟨t1, t2, t3, t4, t5, t6, t7, t8, t9, t10, t11⟩ := hT
  have kw := hR.1.1
  have ow := hR.2.1.1
  have kw1 := kw.1
  cases e : kffN H with
  | none => exact absurd e hc.1
  | some j =>
    obtain ⟨j1, j2⟩ := kff_lt e
    have b := ow.2.2.1 0 j1
    have bk := kw.2 j j2
    have c2 := hc.2
    have v := hR.ov j1
    have vk := hR.kv j2
    have hv := kff_vol e
    have hm : oF H.o 2 0 * H.s 8 ≤ 480 := Nat.mul_le_mul (show oF H.o 2 0 ≤ 6 by omega) t5.2
    rw [optI_some]
    simp (disch := omega) only [n_m1, if_false, bnd_p, v.2.2.1, v.1, inr_n, ix_n, vk.2.1, wr_p, pk_mul, n_sub]
    refine ⟨by omega, ?_⟩
    simp (disch := first | omega | decide) only [up2_nea, up2_nej, hR.sc 6, hR.sc 3, hR.sc 11, hR.sc 8, nI_add, n_sub, pk_mul]
    have hmc : oF H.o 2 0 * 2 = 2 * oF H.o 2 0 := Nat.mul_comm _ _
    rw [hmc]
    have q1 : HR (up2 I (a + 3) j (nI (kvol H.k j - 2 * oF H.o 2 0))) a (H.sk (takeK H.k j (2 * oF H.o 2 0))) :=
      hR.setK (KR.take hR.1 j2) (Same.rf.up (by omega) (by omega))
    have q2 := ((q1.setS 6 (H.s 6 + 2 * oF H.o 2 0)).setS 3 (H.s 3 - oF H.o 2 0)).setS 11 (H.s 11 + 1)
    refine s_enterCups q2.2.2.1 (m := oF H.o 2 0 * H.s 8) (show lcu H.l + oF H.o 2 0 * H.s 8 + lst H.l < 100000000 by omega) fun I10 l10 s10 => ?_
    have q3 := q2.setL l10 s10
    refine s_remove q3.2.1 j1 fun I11 o11 s11 => ?_
    have q4 := q3.setO o11 s11
    refine h I11 ?_ ?_
    · have e1 : serveH H = (((((H.sk (takeK H.k j (2 * oF H.o 2 0))).ss 6 (H.s 6 + 2 * oF H.o 2 0)).ss 3 (H.s 3 - oF H.o 2 0)).ss 11 (H.s 11 + 1)).sl (cupsL H.l (oF H.o 2 0 * H.s 8))).so (delO H.o 0) := by unfold serveH; rw [e]; rfl
      rw [e1]; exact q4
    · refine Same.then ?_ s11.wd
      refine Same.then ?_ s10.wd
      repeat (first | exact Same.rf | refine Same.up ?_ (by omega) (by omega))
theorem s_minute {X : Int32 → Int32 → IT → Prop} {K : Int32 → IT → Prop} (x v3 : Int32) : ∀ n r j I' P, HR I' a P.1 → kc P.1.k = j + r → r < n → (∀ I2, HR I2 a (itK r j P).1 → Same I' I2 a 16 → X (nI (itK r j P).2) (v3 + nI 1) I2) → f_X1_passMinutes_b12 a x X K n (nI P.2) v3 (nI j) I' := by
  intro n
  induction n with
  | zero => intro r _ _ _ _ _ hn; omega
  | succ n ih =>
    intro r j I' P hR hc hn hX
    have kw := hR.1.1
    have kw1 := kw.1
    rw [f_X1_passMinutes_b12, hR.kc]
    simp (disch := omega) only [n_leP]
    cases r with
    | zero =>
      rw [if_pos (by omega)]
      exact hX I' hR Same.rf
    | succ r =>
      rw [if_neg (by omega)]
      have vk := hR.kv (k := j) (by omega)
      have bk := kw.2 j (by omega)
      simp (disch := omega) only [inr_n, ix_n, bnd_p, vk.2.2.2.2]
      refine ⟨by omega, s_passMinute hR.1 (by omega) fun I6 k6 s6 => ?_⟩
      have q1 := hR.setK k6 s6
      have q2 := (q1.setS 4 (P.1.s 4 + vapN P.1.k j)).setS 5 (P.1.s 5 + vapN P.1.k j)
      have vb : I6 (a + 6) j = nI (boiN P.1.k j) := by
        have := (q1.kv (k := j) (show j < kc P.1.k by omega)).2.2.2.2
        rw [this]
        show nI (kboi (passK P.1.k j) j) = _
        simp only [passK, kboi_mk, setN_at]
      simp only [wr_p]
      simp (disch := first | omega | decide) only [up2_nea, up2_nej, q1.sc 4, q1.sc 5, nI_add, vb, n_eq0]
      have hb : boiN P.1.k j ≤ 1 := by unfold boiN; split <;> omega
      have hs : Same I' (up2 (up2 I6 a 4 (nI (P.1.s 4 + vapN P.1.k j))) a 5 (nI (P.1.s 5 + vapN P.1.k j))) a 16 := (s6.wd.up (by omega) (by omega)).up (by omega) (by omega)
      have nx := ih r (j + 1) _ (stepH P j) q2 (show kc P.1.k = j + 1 + r by omega) (by omega) (fun I2 g1 g2 => hX I2 g1 (hs.then g2))
      have e2 : (stepH P j).2 = P.2 + if boiN P.1.k j = 1 ∧ kboi P.1.k j = 0 then 1 else 0 := rfl
      rw [e2] at nx
      have hz := n_eq0 (a := boiN P.1.k j) (by omega)
      simp only [hz]
      by_cases c1 : boiN P.1.k j = 0
      · rw [if_pos c1]
        rw [if_neg (by omega), Nat.add_zero] at nx
        exact nx
      · rw [if_neg c1]
        by_cases c2 : kboi P.1.k j = 0
        · rw [if_pos c2]
          rw [if_pos (by omega)] at nx
          exact nx
        · rw [if_neg c2]
          rw [if_neg (by omega), Nat.add_zero] at nx
          exact nx
theorem s_pass {K : Int32 → IT → Prop} (hR : HR I a H) (hs10 : H.s 10 ≤ 1) {m : Nat} (hm : m ≤ 1000) (h : ∀ I', HR I' a (passH H m).1 → Same I I' a 16 → K (nI (passH H m).2) I') : f_X1_passMinutes a (nI m) I K := by
  have s10 : ∀ r j P, (itK r j P).1.s 10 = P.1.s 10 := by
    intro r
    induction r with
    | zero => intro j P; rfl
    | succ r ih => intro j P; simp only [itK]; rw [ih]; rfl
  have loop : ∀ n r I' P, HR I' a P.1 → r ≤ m → r < n → P.1.s 10 ≤ 1 → (∀ I2, HR I2 a (itM r P).1 → Same I' I2 a 16 → (itM r P).1.s 10 ≤ 1 → (if I2 a 10 = 0 then wr I2 a 13 ((I2 a 13) + nI (itM r P).2) fun I3 => K (nI (itM r P).2) I3 else wr I2 a 12 ((I2 a 12) + nI (itM r P).2) fun I4 => K (nI (itM r P).2) I4)) → f_X1_passMinutes_b4 a (nI m) K n (nI P.2) (nI (m - r)) I' := by
    intro n
    induction n with
    | zero => intro r _ _ _ _ hn; omega
    | succ n ih =>
      intro r I' P hR hr hn hs hX
      rw [f_X1_passMinutes_b4]
      simp (disch := omega) only [n_leP]
      cases r with
      | zero =>
        rw [if_pos (by omega)]
        exact hX I' hR Same.rf hs
      | succ r =>
        rw [if_neg (by omega)]
        have kw1 := hR.1.1.1
        refine s_minute (nI m) (nI (m - (r + 1))) 4096 (kc P.1.k) 0 I' P hR (by omega) (by omega) fun I2 g1 g2 => ?_
        rw [nI_add, show m - (r + 1) + 1 = m - r by omega]
        exact ih r I2 _ g1 (by omega) (by omega) (by rw [s10]; exact hs) fun I3 g3 g4 g5 => hX I3 g3 (g2.then g4) g5
  unfold f_X1_passMinutes
  have := loop 4096 m I (H, 0) hR (Nat.le_refl _) (by omega) hs10 (fun I2 g1 g2 g3 => ?_)
  · rw [Nat.sub_self] at this; exact this
  · rw [g1.sc 10]
    have e : passH H m = ((itM m (H, 0)).1.ss (if (itM m (H, 0)).1.s 10 = 0 then 13 else 12) ((itM m (H, 0)).1.s (if (itM m (H, 0)).1.s 10 = 0 then 13 else 12) + (itM m (H, 0)).2), (itM m (H, 0)).2) := rfl
    rw [e] at h
    generalize itM m (H, 0) = P at *
    simp (disch := omega) only [n_eq0]
    split
    · next c =>
      rw [if_pos c] at h
      rw [g1.sc 13, nI_add]
      exact h _ (g1.setS 13 _) (g2.up (by omega) (by omega))
    · next c =>
      rw [if_neg c] at h
      rw [g1.sc 12, nI_add]
      exact h _ (g1.setS 12 _) (g2.up (by omega) (by omega))
end Hou
