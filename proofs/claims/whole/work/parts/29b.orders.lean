section Law
variable {xs : Nat → Int32} {nn : Nat} {X28 : Int32 → IT → LT → Prop} {K : Int32 → IT → LT → Prop} {p : Nat} {I : IT} {L : LT} {T : TS} {t : Nat}
theorem l_positionOf (hp : p + 5 ≤ nn) (hn : nn ≤ 2560) (hS : ST I T t) (ht : t ≤ 8000) (hX : NX X28 p t) : f_L_law_b1834 xs nn X28 K (nI p) I L := by
  unfold f_L_law_b1834
  simp only [nI_add]
  rw [inr_n (k := p + 1) (by omega), ix_n (n := p + 1) (by omega)]
  refine ⟨by omega, ?_⟩
  generalize xs (p + 1) = x
  unfold f_L_positionOf f_X8_positionOf f_X9_positionOf
  have w1 := hS.1.1.1.2.1.1
  have w2 := hS.1.1.1.2.1.2.1
  obtain ⟨Q, hQ, hv, hv0, hb0, hb⟩ := hS.2.2.1.2.1.fa hS.1.1.1.2.1
  have o1 : I 191 2 = nI (oc T.h.o) := hS.2.2.1.2.1.1
  have e191 : (up2 I 190 0 (nI 0)) 191 = I 191 := up2_ne (by decide)
  refine s_find hS.2.1.1.2.1 x ?_
  have en := hQ.find hS.1.1.1.2.1 x.toInt
  cases e : fndT Q (oc T.h.o) x.toInt with
  | none =>
    rw [e] at en
    have en : findO T.h.o x.toInt = none := en
    rw [en]
    refine s_found (fun j q => by cases q) (fun _ => ?_) (fun j q => by cases q)
    rw [if_pos rfl]
    refine m_find o1 w1 hv0 hb0 x ?_
    rw [e, optI_none, if_pos (by decide)]
    unfold f_X9_positionOf_b16
    refine m_fine0 ?_
    rw [if_pos (by decide)]
    unfold f_X9_thrown
    dsimp only
    rw [up2_same, if_pos rfl, if_neg (by decide)]
    exact l_3520 hX (hS.th _) (by omega)
  | some i =>
    rw [e] at en
    have en : findO T.h.o x.toInt = some (rnkO Q (oc T.h.o) i) := en
    have hi := firstN_lt e
    have hr := hQ.lt hi
    rw [en]
    refine s_found (fun j q => by cases q; omega) (fun q => by cases q) (fun j q => ?_)
    cases q
    unfold wrL
    refine m_find o1 w1 hv0 hb0 x ?_
    have hng := n_neg (a := i) (by omega)
    rw [e, optI_some]
    simp only [hng, if_false]
    unfold f_X9_positionOf_b16
    refine m_fine1 ?_
    rw [if_neg (by decide)]
    refine m_rankOf (T := Q) (n := oc T.h.o) (by rw [e191]; exact o1) w1 (by rw [e191]; exact hv) hb hi ?_
    unfold f_X9_thrown
    dsimp only
    rw [up2_same, if_pos rfl, if_pos (by decide)]
    rw [if_pos (by rw [up2_same]; exact lg_self _)]
    exact l_3520 hX (hS.th _) (by omega)
theorem l_cupsOf (hp : p + 5 ≤ nn) (hn : nn ≤ 2560) (hS : ST I T t) (ht : t ≤ 8000) (hX : NX X28 p t) : f_L_law_b1890 xs nn X28 K (nI p) I L := by
  unfold f_L_law_b1890
  simp only [nI_add]
  rw [inr_n (k := p + 1) (by omega), ix_n (n := p + 1) (by omega)]
  refine ⟨by omega, ?_⟩
  generalize xs (p + 1) = x
  unfold f_L_cupsOf f_X8_cupsOf f_X9_cupsOf f_X9_ofOrder
  have w1 := hS.1.1.1.2.1.1
  have w2 := hS.1.1.1.2.1.2.1
  obtain ⟨Q, hQ, hv, hv0, hb0, hb⟩ := hS.2.2.1.2.1.fa hS.1.1.1.2.1
  have o1 : I 191 2 = nI (oc T.h.o) := hS.2.2.1.2.1.1
  have e191 : (up2 I 190 0 (nI 0)) 191 = I 191 := up2_ne (by decide)
  refine s_find hS.2.1.1.2.1 x ?_
  have en := hQ.find hS.1.1.1.2.1 x.toInt
  cases e : fndT Q (oc T.h.o) x.toInt with
  | none =>
    rw [e] at en
    have en : findO T.h.o x.toInt = none := en
    rw [en]
    refine s_found (fun j q => by cases q) (fun _ => ?_) (fun j q => by cases q)
    rw [if_pos rfl]
    refine m_find o1 w1 hv0 hb0 x ?_
    rw [e, optI_none, if_pos (by decide)]
    unfold f_X9_ofOrder_b14
    refine m_fine0 ?_
    rw [if_pos (by decide)]
    unfold f_X9_thrown
    dsimp only
    rw [up2_same, if_pos rfl, if_neg (by decide)]
    exact l_3520 hX (hS.th _) (by omega)
  | some i =>
    rw [e] at en
    have en : findO T.h.o x.toInt = some (rnkO Q (oc T.h.o) i) := en
    have hi := firstN_lt e
    have hr := hQ.lt hi
    have h2 := hQ.2 i hi 2 (by omega)
    have c2 : I 11 (rnkO Q (oc T.h.o) i) = nI (Q 2 i) := by rw [← h2]; exact (hS.2.1.1.ov hr).2.2.1
    rw [en]
    refine s_found (fun j q => by cases q; omega) (fun q => by cases q) (fun j q => ?_)
    cases q
    rw [inr_n (by omega), ix_n (by omega), c2]
    refine ⟨by omega, ?_⟩
    unfold wrL
    refine m_find o1 w1 hv0 hb0 x ?_
    have hng := n_neg (a := i) (by omega)
    rw [e, optI_some]
    simp only [hng, if_false]
    unfold f_X9_ofOrder_b14
    refine m_fine1 ?_
    rw [if_neg (by decide)]
    refine m_find (T := Q) (n := oc T.h.o) (by rw [e191]; exact o1) w1 (by rw [e191]; exact hv0) hb0 x ?_
    rw [e, optI_some]
    refine m_o (by omega) (by omega) ?_
    unfold f_X9_thrown
    dsimp only
    rw [show (up2 I 190 0 (nI 0)) 191 (53 + 5 * i + 2) = nI (Q 2 i) by rw [e191]; exact hv i hi 2 (by omega), up2_same, if_pos rfl, if_pos (by decide)]
    rw [if_pos (by rw [up2_same]; exact lg_self _)]
    exact l_3520 hX (hS.th _) (by omega)
theorem l_priceOf (hp : p + 5 ≤ nn) (hn : nn ≤ 2560) (hS : ST I T t) (ht : t ≤ 8000) (hX : NX X28 p t) : f_L_law_b1946 xs nn X28 K (nI p) I L := by
  unfold f_L_law_b1946
  simp only [nI_add]
  rw [inr_n (k := p + 1) (by omega), ix_n (n := p + 1) (by omega)]
  refine ⟨by omega, ?_⟩
  generalize xs (p + 1) = x
  unfold f_L_priceOf f_X8_priceOf f_X9_priceOf f_X9_ofOrder
  have w1 := hS.1.1.1.2.1.1
  have w2 := hS.1.1.1.2.1.2.1
  obtain ⟨Q, hQ, hv, hv0, hb0, hb⟩ := hS.2.2.1.2.1.fa hS.1.1.1.2.1
  have o1 : I 191 2 = nI (oc T.h.o) := hS.2.2.1.2.1.1
  have e191 : (up2 I 190 0 (nI 0)) 191 = I 191 := up2_ne (by decide)
  refine s_find hS.2.1.1.2.1 x ?_
  have en := hQ.find hS.1.1.1.2.1 x.toInt
  cases e : fndT Q (oc T.h.o) x.toInt with
  | none =>
    rw [e] at en
    have en : findO T.h.o x.toInt = none := en
    rw [en]
    refine s_found (fun j q => by cases q) (fun _ => ?_) (fun j q => by cases q)
    rw [if_pos rfl]
    refine m_find o1 w1 hv0 hb0 x ?_
    rw [e, optI_none, if_pos (by decide)]
    unfold f_X9_ofOrder_b14
    refine m_fine0 ?_
    rw [if_pos (by decide)]
    unfold f_X9_thrown f_X9_eighths
    dsimp only
    rw [show nI 0 * (up2 I 190 0 (nI 1)) 191 9 = nI 0 by rw [show nI 0 = (0 : Int32) from rfl, Int32.zero_mul], ← fl_eighth, up2_same, if_pos rfl, if_neg (by decide)]
    exact ⟨fl_n32 (fl_fin_eighth _), l_3520 hX (hS.th _) (by omega)⟩
  | some i =>
    rw [e] at en
    have en : findO T.h.o x.toInt = some (rnkO Q (oc T.h.o) i) := en
    have hi := firstN_lt e
    have hr := hQ.lt hi
    have h2 := hQ.2 i hi 2 (by omega)
    have c2 : I 11 (rnkO Q (oc T.h.o) i) = nI (Q 2 i) := by rw [← h2]; exact (hS.2.1.1.ov hr).2.2.1
    rw [en]
    refine s_found (fun j q => by cases q; omega) (fun q => by cases q) (fun j q => ?_)
    cases q
    rw [inr_n (by omega), ix_n (by omega), c2]
    refine ⟨by omega, ?_⟩
    have h9 : I 191 9 = nI (T.h.s 8) := hS.2.2.1.2.2.2.2.2.2.2.2.1
    have c8 : I 1 8 = nI (T.h.s 8) := hS.2.1.1.sc 8
    unfold f_X8_eighths
    rw [c8, pk_mul]
    refine ⟨fl_n32 (fl_fin_eighth _), fl_n64 (fl_f2d (fl_fin_eighth _)), ?_⟩
    unfold wrD
    refine m_find o1 w1 hv0 hb0 x ?_
    have hng := n_neg (a := i) (by omega)
    rw [e, optI_some]
    simp only [hng, if_false]
    unfold f_X9_ofOrder_b14
    refine m_fine1 ?_
    rw [if_neg (by decide)]
    refine m_find (T := Q) (n := oc T.h.o) (by rw [e191]; exact o1) w1 (by rw [e191]; exact hv0) hb0 x ?_
    rw [e, optI_some]
    refine m_o (by omega) (by omega) ?_
    unfold f_X9_thrown f_X9_eighths
    dsimp only
    rw [show (up2 I 190 0 (nI 0)) 191 (53 + 5 * i + 2) = nI (Q 2 i) by rw [e191]; exact hv i hi 2 (by omega), show (up2 I 190 0 (nI 0)) 191 9 = nI (T.h.s 8) by rw [e191]; exact h9, pk_mul, ← fl_eighth, up2_same, if_pos rfl, if_pos (by decide)]
    refine ⟨fl_n32 (fl_fin_eighth _), fl_n64 (fl_f2d (fl_fin_eighth _)), ?_⟩
    rw [if_pos (by rw [up2_same]; exact fl_self (fl_f2d (fl_fin_eighth _)))]
    exact l_3520 hX (hS.th _) (by omega)
end Law
