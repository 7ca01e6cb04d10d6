section Law
variable {xs : Nat → Int32} {nn : Nat} {X28 : Int32 → IT → LT → Prop} {K : Int32 → IT → LT → Prop} {p : Nat} {I : IT} {L : LT} {T : TS} {t : Nat}
theorem l_kettleFor (hp : p + 5 ≤ nn) (hn : nn ≤ 2560) (hS : ST I T t) (ht : t ≤ 8000) (hX : NX X28 p t) : f_L_law_b2024 xs nn X28 K (nI p) I L := by
  unfold f_L_law_b2024
  simp only [nI_add]
  rw [inr_n (k := p + 1) (by omega), ix_n (n := p + 1) (by omega)]
  refine ⟨by omega, ?_⟩
  generalize xs (p + 1) = x
  unfold f_L_kettleFor f_X8_kettleFor f_X9_kettleFor
  have w1 := hS.1.1.1.2.1.1
  have kw1 := hS.1.1.1.1.1
  have w2 := hS.1.1.1.2.1.2.1
  obtain ⟨Q, hQ, hv, hv0, hb0, hb⟩ := hS.2.2.1.2.1.fa hS.1.1.1.2.1
  have o1 : I 191 2 = nI (oc T.h.o) := hS.2.2.1.2.1.1
  have no : f_X9_kettleFor_b19 x (fun x5 I6 => f_X9_thrown I6 (fun x7 => if x7 = nI 1 then (if nI 1 = 0 then (if (lg_cmp (L.1 195 0) (x5.toInt64)) = 0 then (f_L_law_b3520 xs nn X28 K (nI p) I6 L) else (K (nI 0) I6 L)) else (f_L_law_b3520 xs nn X28 K (nI p) I6 L)) else (K (nI 0) I6 L))) (-1) I := by
    unfold f_X9_kettleFor_b19
    rw [if_pos (by decide)]
    unfold f_X9_kettleFor_b30
    refine m_fine0 ?_
    rw [if_pos (by decide)]
    unfold f_X9_thrown
    dsimp only
    rw [up2_same, if_pos rfl, if_neg (by decide)]
    exact l_3520 hX (hS.th _) (by omega)
  refine s_find hS.2.1.1.2.1 x ?_
  have en := hQ.find hS.1.1.1.2.1 x.toInt
  cases e : fndT Q (oc T.h.o) x.toInt with
  | none =>
    rw [e] at en
    have en : findO T.h.o x.toInt = none := en
    rw [en]
    refine s_found (fun j q => by cases q) (fun _ => ?_) (fun j q => by cases q)
    rw [if_pos rfl]
    refine m_find o1 w1 hv0 hb0 x ?_
    rw [e, optI_none, if_neg (by decide)]
    exact no
  | some i =>
    rw [e] at en
    have en : findO T.h.o x.toInt = some (rnkO Q (oc T.h.o) i) := en
    have hi := firstN_lt e
    have hr := hQ.lt hi
    have bd := hQ.bd hS.1.1.1.2.1 hi
    have h2 := hQ.2 i hi 2 (by omega)
    have h3 := hQ.2 i hi 3 (by omega)
    have c2 : I 11 (rnkO Q (oc T.h.o) i) = nI (Q 2 i) := by rw [← h2]; exact (hS.2.1.1.ov hr).2.2.1
    have c3 : I 12 (rnkO Q (oc T.h.o) i) = nI (Q 3 i) := by rw [← h3]; exact (hS.2.1.1.ov hr).2.2.2.1
    have hg := n_ge0 (a := i) (by omega)
    rw [en]
    refine s_found (fun j q => by cases q; omega) (fun q => by cases q) (fun j q => ?_)
    cases q
    rw [inr_n (by omega), ix_n (by omega), c2, c3]
    refine ⟨by omega, s_suitable hS.2.1.1.1 (by omega) (by omega) (by omega) ?_⟩
    refine s_found (fun j q => by have := suitK_lt q; omega) (fun q => ?_) (fun j q => ?_)
    · rw [if_pos rfl]
      refine m_find o1 w1 hv0 hb0 x ?_
      rw [e, optI_some]
      simp only [hg, if_true]
      refine m_pourer (T := Q) hS.2.2.1.1 hS.1.1.1.1 (by omega) (hv i hi) (by omega) (by omega) ?_
      rw [q, optI_none]
      exact no
    · have hj := suitK_lt q
      unfold wrL
      refine m_find o1 w1 hv0 hb0 x ?_
      rw [e, optI_some]
      simp only [hg, if_true]
      refine m_pourer (T := Q) hS.2.2.1.1 hS.1.1.1.1 (by omega) (hv i hi) (by omega) (by omega) ?_
      have hng := n_neg (a := j) (by omega)
      rw [q, optI_some]
      unfold f_X9_kettleFor_b19
      simp only [hng, if_false]
      unfold f_X9_kettleFor_b30
      refine m_fine1 ?_
      rw [if_neg (by decide)]
      unfold f_X9_thrown
      dsimp only
      rw [up2_same, if_pos rfl, if_pos (by decide)]
      rw [if_pos (by rw [up2_same]; exact lg_self _)]
      exact l_3520 hX (hS.th _) (by omega)
end Law
