section Law
variable {xs : Nat → Int32} {nn : Nat} {X28 : Int32 → IT → LT → Prop} {K : Int32 → IT → LT → Prop} {p : Nat} {I : IT} {L : LT} {T : TS} {t : Nat}
theorem l_isBoiling (hp : p + 5 ≤ nn) (hn : nn ≤ 2560) (hS : ST I T t) (ht : t ≤ 8000) (hX : NX X28 p t) : f_L_law_b1534 xs nn X28 K (nI p) I L := by
  unfold f_L_law_b1534
  simp only [nI_add]
  rw [inr_n (k := p + 1) (by omega), ix_n (n := p + 1) (by omega)]
  refine ⟨by omega, ?_⟩
  generalize xs (p + 1) = x
  unfold f_L_isBoiling f_X8_isBoiling f_X9_isBoiling
  have kw1 := hS.1.1.1.1.1
  refine s_reqK hS.2.1 x (fun q => ?_) (fun q => ?_)
  · rw [if_pos rfl]
    refine m_ofKettle hS.2.2.1 hS.1.1.1 x (by decide) (fun _ => ?_) (fun q2 => absurd q2 q)
    unfold f_X9_thrown
    dsimp only
    rw [if_neg (by decide), up2_same, if_pos rfl, if_neg (by decide)]
    exact l_3520 hX (hS.th _) (by omega)
  · obtain ⟨x1, x2, x3⟩ := x_ix (x := x) (by omega)
    have hk : ix x < kc T.h.k := by omega
    have bk := hS.1.1.1.1.2 (ix x) hk
    have e1 : I 7 (ix x) = nI (kboi T.h.k (ix x)) := (hS.2.1.1.kv (k := ix x) hk).2.2.2.2
    have e2 : I 191 (33 + 5 * ix x + 4) = nI (kboi T.h.k (ix x)) := (hS.2.2.1.1.2 (ix x) hk).2.2.2.2
    have hin : inr x 4 := ⟨by omega, by omega⟩
    refine ⟨hin, ?_⟩
    rw [e1]
    refine ⟨isZ_n bk.2.2.2.2.2, ?_⟩
    rcases (show kboi T.h.k (ix x) = 0 ∨ kboi T.h.k (ix x) = 1 by omega) with c | c
    · rw [c] at e2 ⊢
      rw [if_pos (by decide)]
      unfold wrL
      refine m_ofKettle hS.2.2.1 hS.1.1.1 x (by decide) (fun q2 => absurd q q2) (fun _ => ?_)
      rw [e2, if_neg (by decide)]
      unfold f_X9_thrown
      dsimp only
      rw [up2_same, if_pos rfl, if_pos (by decide), if_pos (by decide)]
      unfold f_L_law_b1588
      rw [if_pos (by rw [up2_same]; exact lg_self _)]
      exact l_3520 hX (hS.th _) (by omega)
    · rw [c] at e2 ⊢
      rw [if_neg (by decide)]
      unfold wrL
      refine m_ofKettle hS.2.2.1 hS.1.1.1 x (by decide) (fun q2 => absurd q q2) (fun _ => ?_)
      rw [e2, if_pos (by decide)]
      unfold f_X9_thrown
      dsimp only
      rw [up2_same, if_pos rfl, if_pos (by decide), if_neg (by decide)]
      unfold f_L_law_b1588
      rw [if_pos (by rw [up2_same]; exact lg_self _)]
      exact l_3520 hX (hS.th _) (by omega)
end Law
