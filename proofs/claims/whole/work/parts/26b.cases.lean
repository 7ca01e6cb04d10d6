/-! ===== the law's cases: the changes that answer with a float ===== -/
section Law
variable {xs : Nat → Int32} {nn : Nat} {X28 : Int32 → IT → LT → Prop} {K : Int32 → IT → LT → Prop} {p : Nat} {I : IT} {L : LT} {T : TS} {t : Nat}
theorem l_fill (hp : p + 5 ≤ nn) (hn : nn ≤ 2560) (hS : ST I T t) (ht : t ≤ 8000) (hX : NX X28 p t) : f_L_law_b372 xs nn X28 K (nI p) I L := by
  unfold f_L_law_b372
  simp only [nI_add]
  rw [inr_n (k := p + 1) (by omega), ix_n (n := p + 1) (by omega)]
  rw [inr_n (k := p + 2) (by omega), ix_n (n := p + 2) (by omega)]
  refine ⟨by omega, by omega, ?_⟩
  generalize xs (p + 1) = x
  generalize xs (p + 2) = y
  unfold f_L_fill f_X8_fill f_X9_fill
  have he := ref1 T.h x.toInt y.toInt (nI 0).toInt (nI 0).toInt
  refine j_change (v := 1) (by decide) x y (nI 0) (nI 0) hS ht (fun e => by cases e) (V := fun I K => f_X9_fills x y I K) (fun I1 K1 hM hk => m_fills hM hS.1.1.1 x y _ _ hk) 1 2 3 0 (fun r e hr => ?_) (fun e I2 hm => ?_) (fun r e hr hm => ?_)
  · rcases (show r = 1 ∨ r = 2 ∨ r = 3 by omega) with rfl | rfl | rfl <;> decide
  · unfold f_X8_halves f_X9_halves
    dsimp only
    refine ⟨fl_n32 (fl_fin_half _), fl_n64 (fl_f2d (fl_fin_half _)), ?_⟩
    unfold wrD
    refine hm _ fun I6 s6 e6 => ?_
    unfold f_X9_thrown
    dsimp only
    rw [← fl_half, e6, if_pos rfl, if_pos (by decide)]
    refine ⟨fl_n32 (fl_fin_half _), fl_n64 (fl_f2d (fl_fin_half _)), ?_⟩
    rw [if_pos (by rw [up2_same]; exact fl_self (fl_f2d (fl_fin_half _)))]
    exact l_3520 hX s6 (by omega)
  · rcases (show r = 1 ∨ r = 2 ∨ r = 3 by omega) with rfl | rfl | rfl
    · rw [exc1, if_pos rfl]
      refine hm _ fun I6 s6 e6 => ?_
      unfold f_X9_thrown f_X9_halves
      dsimp only
      rw [← fl_half]
      refine ⟨fl_n32 (fl_fin_half _), ?_⟩
      rw [e6, if_pos (by decide), if_neg (by decide)]
      exact l_3520 hX s6 (by omega)
    · rw [exc2, if_neg (by decide), if_pos rfl]
      refine hm _ fun I6 s6 e6 => ?_
      unfold f_X9_thrown f_X9_halves
      dsimp only
      rw [← fl_half]
      refine ⟨fl_n32 (fl_fin_half _), ?_⟩
      rw [e6, if_pos (by decide), if_neg (by decide)]
      exact l_3520 hX s6 (by omega)
    · rw [exc3, if_neg (by decide), if_neg (by decide), if_pos rfl]
      refine hm _ fun I6 s6 e6 => ?_
      unfold f_X9_thrown f_X9_halves
      dsimp only
      rw [← fl_half]
      refine ⟨fl_n32 (fl_fin_half _), ?_⟩
      rw [e6, if_pos (by decide), if_neg (by decide)]
      exact l_3520 hX s6 (by omega)
theorem l_sellSteam (hp : p + 5 ≤ nn) (hn : nn ≤ 2560) (hS : ST I T t) (ht : t ≤ 8000) (hX : NX X28 p t) : f_L_law_b778 xs nn X28 K (nI p) I L := by
  unfold f_L_law_b778
  simp only [nI_add]
  rw [inr_n (k := p + 1) (by omega), ix_n (n := p + 1) (by omega)]
  refine ⟨by omega, ?_⟩
  generalize xs (p + 1) = x
  unfold f_L_sellSteam f_X8_sellSteam f_X9_sellSteam
  have he := ref7 T.h x.toInt (nI 0).toInt (nI 0).toInt (nI 0).toInt
  refine j_change (v := 7) (by decide) x (nI 0) (nI 0) (nI 0) hS ht (fun e => by cases e) (V := fun I K => f_X9_sells x I K) (fun I1 K1 hM hk => m_sells hM hS.1.1.1 hS.1.1.2 ht x _ _ _ hk) 0 1 2 0 (fun r e hr => ?_) (fun e I2 hm => ?_) (fun r e hr hm => ?_)
  · rcases (show r = 2 ∨ r = 3 by omega) with rfl | rfl <;> decide
  · unfold f_X8_eighths f_X9_eighths
    dsimp only
    refine ⟨fl_n32 (fl_fin_eighth _), fl_n64 (fl_f2d (fl_fin_eighth _)), ?_⟩
    unfold wrD
    refine hm _ fun I6 s6 e6 => ?_
    unfold f_X9_thrown
    dsimp only
    rw [← fl_eighth, e6, if_pos rfl, if_pos (by decide)]
    refine ⟨fl_n32 (fl_fin_eighth _), fl_n64 (fl_f2d (fl_fin_eighth _)), ?_⟩
    rw [if_pos (by rw [up2_same]; exact fl_self (fl_f2d (fl_fin_eighth _)))]
    exact l_3520 hX s6 (by omega)
  · rcases (show r = 2 ∨ r = 3 by omega) with rfl | rfl
    · rw [exc2, if_pos rfl]
      refine hm _ fun I6 s6 e6 => ?_
      unfold f_X9_thrown f_X9_eighths
      dsimp only
      rw [← fl_eighth]
      refine ⟨fl_n32 (fl_fin_eighth _), ?_⟩
      rw [e6, if_pos (by decide), if_neg (by decide)]
      exact l_3520 hX s6 (by omega)
    · rw [exc3, if_neg (by decide), if_pos rfl]
      refine hm _ fun I6 s6 e6 => ?_
      unfold f_X9_thrown f_X9_eighths
      dsimp only
      rw [← fl_eighth]
      refine ⟨fl_n32 (fl_fin_eighth _), ?_⟩
      rw [e6, if_pos (by decide), if_neg (by decide)]
      exact l_3520 hX s6 (by omega)
theorem l_setCupPrice (hp : p + 5 ≤ nn) (hn : nn ≤ 2560) (hS : ST I T t) (ht : t ≤ 8000) (hX : NX X28 p t) : f_L_law_b856 xs nn X28 K (nI p) I L := by
  unfold f_L_law_b856
  simp only [nI_add]
  rw [inr_n (k := p + 1) (by omega), ix_n (n := p + 1) (by omega)]
  refine ⟨by omega, ?_⟩
  generalize xs (p + 1) = x
  unfold f_L_setCupPrice f_X8_setCupPrice f_X9_setCupPrice
  have he := ref9 T.h x.toInt (nI 0).toInt (nI 0).toInt (nI 0).toInt
  refine j_change (v := 9) (by decide) x (nI 0) (nI 0) (nI 0) hS ht (fun e => by cases e) (V := fun I K => f_X9_prices (nI 9) x I K) (fun I1 K1 hM hk => m_cup hM hS.1.1.1 x _ _ _ hk) 0 1 0 0 (fun r e hr => ?_) (fun e I2 hm => ?_) (fun r e hr hm => ?_)
  · obtain rfl : r = 2 := by omega
    decide
  · unfold f_X8_eighths f_X9_eighths
    dsimp only
    refine ⟨fl_n32 (fl_fin_eighth _), fl_n64 (fl_f2d (fl_fin_eighth _)), ?_⟩
    unfold wrD
    refine hm _ fun I6 s6 e6 => ?_
    unfold f_X9_thrown
    dsimp only
    rw [← fl_eighth, e6, if_pos rfl, if_pos (by decide)]
    refine ⟨fl_n32 (fl_fin_eighth _), fl_n64 (fl_f2d (fl_fin_eighth _)), ?_⟩
    rw [if_pos (by rw [up2_same]; exact fl_self (fl_f2d (fl_fin_eighth _)))]
    exact l_3520 hX s6 (by omega)
  · obtain rfl : r = 2 := by omega
    rw [exc2, if_pos rfl]
    refine hm _ fun I6 s6 e6 => ?_
    unfold f_X9_thrown f_X9_eighths
    dsimp only
    rw [← fl_eighth]
    refine ⟨fl_n32 (fl_fin_eighth _), ?_⟩
    rw [e6, if_pos (by decide), if_neg (by decide)]
    exact l_3520 hX s6 (by omega)
theorem l_setSteamPrice (hp : p + 5 ≤ nn) (hn : nn ≤ 2560) (hS : ST I T t) (ht : t ≤ 8000) (hX : NX X28 p t) : f_L_law_b934 xs nn X28 K (nI p) I L := by
  unfold f_L_law_b934
  simp only [nI_add]
  rw [inr_n (k := p + 1) (by omega), ix_n (n := p + 1) (by omega)]
  refine ⟨by omega, ?_⟩
  generalize xs (p + 1) = x
  unfold f_L_setSteamPrice f_X8_setSteamPrice f_X9_setSteamPrice
  have he := ref10 T.h x.toInt (nI 0).toInt (nI 0).toInt (nI 0).toInt
  refine j_change (v := 10) (by decide) x (nI 0) (nI 0) (nI 0) hS ht (fun e => by cases e) (V := fun I K => f_X9_prices (nI 10) x I K) (fun I1 K1 hM hk => m_litre hM hS.1.1.1 x _ _ _ hk) 0 1 0 0 (fun r e hr => ?_) (fun e I2 hm => ?_) (fun r e hr hm => ?_)
  · obtain rfl : r = 2 := by omega
    decide
  · dsimp only
    refine ⟨fl_n64 (fl_f2d (fl_i2f _)), ?_⟩
    unfold wrD
    refine hm _ fun I6 s6 e6 => ?_
    unfold f_X9_thrown
    dsimp only
    rw [e6, if_pos rfl, if_pos (by decide)]
    refine ⟨fl_n64 (fl_f2d (fl_i2f _)), ?_⟩
    rw [if_pos (by rw [up2_same]; exact fl_self (fl_f2d (fl_i2f _)))]
    exact l_3520 hX s6 (by omega)
  · obtain rfl : r = 2 := by omega
    rw [exc2, if_pos rfl]
    refine hm _ fun I6 s6 e6 => ?_
    unfold f_X9_thrown
    dsimp only
    rw [e6, if_pos (by decide), if_neg (by decide)]
    exact l_3520 hX s6 (by omega)
theorem l_closeNight (hp : p + 5 ≤ nn) (hn : nn ≤ 2560) (hS : ST I T t) (ht : t ≤ 8000) (hX : NX X28 p t) : f_L_law_b1109 xs nn X28 K (nI p) I L := by
  unfold f_L_law_b1109
  unfold f_L_closeNight f_X8_closeNight f_X9_closeNight
  have he := ref12 T.h (nI 0).toInt (nI 0).toInt (nI 0).toInt (nI 0).toInt
  refine j_change (v := 12) (by decide) (nI 0) (nI 0) (nI 0) (nI 0) hS ht (fun e => by cases e) (V := fun I K => f_X9_closes I K) (fun I1 K1 hM hk => m_closes hM hS.1.1.1 _ _ _ _ hk) 0 0 1 0 (fun r e hr => ?_) (fun e I2 hm => ?_) (fun r e hr hm => ?_)
  · obtain rfl : r = 3 := by omega
    decide
  · unfold f_X8_eighths f_X9_eighths
    dsimp only
    refine ⟨fl_n32 (fl_fin_eighth _), fl_n64 (fl_f2d (fl_fin_eighth _)), ?_⟩
    unfold wrD
    refine hm _ fun I6 s6 e6 => ?_
    unfold f_X9_thrown
    dsimp only
    rw [← fl_eighth, e6, if_pos rfl, if_pos (by decide)]
    refine ⟨fl_n32 (fl_fin_eighth _), fl_n64 (fl_f2d (fl_fin_eighth _)), ?_⟩
    rw [if_pos (by rw [up2_same]; exact fl_self (fl_f2d (fl_fin_eighth _)))]
    exact l_3520 hX s6 (by omega)
  · obtain rfl : r = 3 := by omega
    rw [exc3, if_pos rfl]
    refine hm _ fun I6 s6 e6 => ?_
    unfold f_X9_thrown f_X9_eighths
    dsimp only
    rw [← fl_eighth]
    refine ⟨fl_n32 (fl_fin_eighth _), ?_⟩
    rw [e6, if_pos (by decide), if_neg (by decide)]
    exact l_3520 hX s6 (by omega)
end Law
