section Law
variable {xs : Nat → Int32} {nn : Nat} {X28 : Int32 → IT → LT → Prop} {K : Int32 → IT → LT → Prop} {p : Nat} {I : IT} {L : LT} {T : TS} {t : Nat}
theorem l_errorPosition (hp : p + 5 ≤ nn) (hn : nn ≤ 2560) (hS : ST I T t) (ht : t ≤ 8000) (hX : NX X28 p t) : f_L_law_b3318 xs nn X28 K (nI p) I L := by
  unfold f_L_law_b3318 f_L_errorPosition f_X8_errorPosition f_X9_errorPosition
  have e1 : I 0 10 = optI T.ma := hS.2.1.2.2.2.1
  have e2 : I 190 11 = optI T.ma := hS.2.2.2.2.2.2.1
  have hb : ∀ j, T.ma = some j → j < 2147483648 := fun j q => by have := hS.1.2.2.2.2.1 j q; omega
  rw [e1]
  refine s_found hb (fun q => ?_) (fun j q => ?_)
  · rw [if_pos rfl]
    dsimp only
    rw [e2, q, optI_none, if_pos (by decide)]
    unfold f_X9_errorPosition_b14
    refine m_fine0 ?_
    rw [if_pos (by decide)]
    unfold f_X9_thrown
    dsimp only
    rw [up2_same, if_pos rfl, if_neg (by decide)]
    exact l_3520 hX (hS.th _) (by omega)
  · unfold wrL
    dsimp only
    have hm := n_m1 (a := j) (hb j q)
    rw [e2, q, optI_some, if_neg (by rw [hm]; exact id)]
    unfold f_X9_errorPosition_b14
    refine m_fine1 ?_
    rw [if_neg (by decide)]
    unfold f_X9_thrown
    dsimp only
    rw [show (up2 I 190 0 (nI 0)) 190 11 = nI j by rw [up2_nej (by decide), e2, q]; rfl, up2_same, if_pos rfl, if_pos (by decide)]
    rw [if_pos (by rw [up2_same]; exact lg_self _)]
    exact l_3520 hX (hS.th _) (by omega)
theorem l_failedCommand (hp : p + 5 ≤ nn) (hn : nn ≤ 2560) (hS : ST I T t) (ht : t ≤ 8000) (hX : NX X28 p t) : f_L_law_b3362 xs nn X28 K (nI p) I L := by
  unfold f_L_law_b3362 f_L_failedCommand f_X8_failedCommand f_X9_failedCommand
  have e1 : I 0 11 = optI T.fa := hS.2.1.2.2.2.2.1
  have e2 : I 190 12 = optI T.fa := hS.2.2.2.2.2.2.2.1
  have hb : ∀ j, T.fa = some j → j < 2147483648 := fun j q => by have := hS.1.2.2.2.2.2.1 j q; omega
  rw [e1]
  refine s_found hb (fun q => ?_) (fun j q => ?_)
  · rw [if_pos rfl]
    dsimp only
    rw [e2, q, optI_none, if_pos (by decide)]
    unfold f_X9_failedCommand_b14
    refine m_fine0 ?_
    rw [if_pos (by decide)]
    unfold f_X9_thrown
    dsimp only
    rw [up2_same, if_pos rfl, if_neg (by decide)]
    exact l_3520 hX (hS.th _) (by omega)
  · unfold wrL
    dsimp only
    have hm := n_m1 (a := j) (hb j q)
    rw [e2, q, optI_some, if_neg (by rw [hm]; exact id)]
    unfold f_X9_failedCommand_b14
    refine m_fine1 ?_
    rw [if_neg (by decide)]
    unfold f_X9_thrown
    dsimp only
    rw [show (up2 I 190 0 (nI 0)) 190 12 = nI j by rw [up2_nej (by decide), e2, q]; rfl, up2_same, if_pos rfl, if_pos (by decide)]
    rw [if_pos (by rw [up2_same]; exact lg_self _)]
    exact l_3520 hX (hS.th _) (by omega)
end Law
