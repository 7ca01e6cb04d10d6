/-! ===== the law's cases: what is told ===== -/
theorem ST.th {I : IT} {T : TS} {t : Nat} (h : ST I T t) (v : Int32) : ST (up2 I 190 0 v) T t := by
  obtain ⟨w, hC, hM⟩ := h
  have hm : Md2 I (up2 I 190 0 v) := ⟨fun q a b => up2_ne a, fun j a b c => up2_nej a⟩
  have e : (up2 I 190 0 v) 191 = I 191 := up2_ne (by decide)
  have er : row (up2 I 190 0 v) = row I := by unfold row; rw [e]
  refine ⟨w, hC.same fun q hq => up2_ne (by omega), hM.of hm (by rw [e]; exact hM.1) (by rw [up2_nej (by decide)]; exact hM.2.1) (fun i hi => by rw [er]; exact hM.2.2.1 i hi) (fun S hS h9 => by rw [er]; exact h9) rfl rfl rfl rfl rfl⟩
theorem m_told {I : IT} {K : Int32 → IT → Prop} {j : Nat} (hj : j < 103) (h : K (I 191 j) (up2 I 190 0 (nI 0))) : f_X9_told (nI j) I K := by
  unfold f_X9_told
  rw [wr_p, inr_n (by omega), ix_n (by omega), up2_nea (by decide)]
  exact ⟨by omega, h⟩
section Law
variable {xs : Nat → Int32} {nn : Nat} {X28 : Int32 → IT → LT → Prop} {K : Int32 → IT → LT → Prop} {p : Nat} {I : IT} {L : LT} {T : TS} {t : Nat}
theorem l_kettleCount (hp : p + 5 ≤ nn) (hn : nn ≤ 2560) (hS : ST I T t) (ht : t ≤ 8000) (hX : NX X28 p t) : f_L_law_b1175 xs nn X28 K (nI p) I L := by
  unfold f_L_law_b1175 f_X8_kettleCount f_X9_kettleCount
  refine m_told (by decide) ?_
  have e1 : I 2 5 = nI (kc T.h.k) := hS.2.1.1.kc
  have e2 : I 191 1 = nI (kc T.h.k) := hS.2.2.1.1.1
  dsimp only
  rw [e1, e2, if_pos rfl]
  exact l_3520 hX (hS.th _) (by omega)
theorem l_waitingCount (hp : p + 5 ≤ nn) (hn : nn ≤ 2560) (hS : ST I T t) (ht : t ≤ 8000) (hX : NX X28 p t) : f_L_law_b1765 xs nn X28 K (nI p) I L := by
  unfold f_L_law_b1765 f_X8_waitingCount f_X9_waitingCount
  refine m_told (by decide) ?_
  have e1 : I 8 5 = nI (oc T.h.o) := hS.2.1.1.oc
  have e2 : I 191 2 = nI (oc T.h.o) := hS.2.2.1.2.1.1
  dsimp only
  rw [e1, e2, if_pos rfl]
  exact l_3520 hX (hS.th _) (by omega)
theorem l_nightCount (hp : p + 5 ≤ nn) (hn : nn ≤ 2560) (hS : ST I T t) (ht : t ≤ 8000) (hX : NX X28 p t) : f_L_law_b2463 xs nn X28 K (nI p) I L := by
  unfold f_L_law_b2463 f_X8_nightCount f_X9_nightCount
  refine m_told (by decide) ?_
  have e1 : I 14 2 = nI (lc T.h.l) := hS.2.1.1.lc
  have e2 : I 191 13 = nI (lc T.h.l) := hS.2.2.1.2.2.1.2.1
  dsimp only
  rw [e1, e2, if_pos rfl]
  exact l_3520 hX (hS.th _) (by omega)
theorem l_servedOrders (hp : p + 5 ≤ nn) (hn : nn ≤ 2560) (hS : ST I T t) (ht : t ≤ 8000) (hX : NX X28 p t) : f_L_law_b2852 xs nn X28 K (nI p) I L := by
  unfold f_L_law_b2852 f_X8_servedOrders f_X9_servedOrders
  refine m_told (by decide) ?_
  have e1 : I 1 11 = nI (T.h.s 11) := hS.2.1.1.sc 11
  have e2 : I 191 14 = nI (T.h.s 11) := hS.2.2.1.2.2.2.2.2.2.2.2.2.2.2.1
  dsimp only
  rw [e1, e2, if_pos rfl]
  exact l_3520 hX (hS.th _) (by omega)
theorem l_whistlesHeard (hp : p + 5 ≤ nn) (hn : nn ≤ 2560) (hS : ST I T t) (ht : t ≤ 8000) (hX : NX X28 p t) : f_L_law_b2865 xs nn X28 K (nI p) I L := by
  unfold f_L_law_b2865 f_X8_whistlesHeard f_X9_whistlesHeard
  refine m_told (by decide) ?_
  have e1 : I 1 12 = nI (T.h.s 12) := hS.2.1.1.sc 12
  have e2 : I 191 15 = nI (T.h.s 12) := hS.2.2.1.2.2.2.2.2.2.2.2.2.2.2.2.1
  dsimp only
  rw [e1, e2, if_pos rfl]
  exact l_3520 hX (hS.th _) (by omega)
theorem l_whistlesLost (hp : p + 5 ≤ nn) (hn : nn ≤ 2560) (hS : ST I T t) (ht : t ≤ 8000) (hX : NX X28 p t) : f_L_law_b2878 xs nn X28 K (nI p) I L := by
  unfold f_L_law_b2878 f_X8_whistlesLost f_X9_whistlesLost
  refine m_told (by decide) ?_
  have e1 : I 1 13 = nI (T.h.s 13) := hS.2.1.1.sc 13
  have e2 : I 191 16 = nI (T.h.s 13) := hS.2.2.1.2.2.2.2.2.2.2.2.2.2.2.2.2
  dsimp only
  rw [e1, e2, if_pos rfl]
  exact l_3520 hX (hS.th _) (by omega)
theorem l_cleanCups (hp : p + 5 ≤ nn) (hn : nn ≤ 2560) (hS : ST I T t) (ht : t ≤ 8000) (hX : NX X28 p t) : f_L_law_b2149 xs nn X28 K (nI p) I L := by
  unfold f_L_law_b2149 f_X8_cleanCups f_X9_cleanCups
  refine m_told (by decide) ?_
  have e1 : I 1 3 = nI (T.h.s 3) := hS.2.1.1.sc 3
  have e2 : I 191 4 = nI (20 - T.h.s 3) := hS.2.2.1.2.2.2.1
  have e3 : T.h.s 3 ≤ 20 := hS.1.1.2.1
  dsimp only
  rw [e1, e2, n_sub (by omega), if_pos (by congr 1; omega)]
  exact l_3520 hX (hS.th _) (by omega)
theorem l_steam (hp : p + 5 ≤ nn) (hn : nn ≤ 2560) (hS : ST I T t) (ht : t ≤ 8000) (hX : NX X28 p t) : f_L_law_b2162 xs nn X28 K (nI p) I L := by
  unfold f_L_law_b2162 f_X8_steam f_X9_steam f_X8_eighths
  have e1 : I 1 4 = nI (T.h.s 4) := hS.2.1.1.sc 4
  have e2 : I 191 5 = nI (T.h.s 4) := hS.2.2.1.2.2.2.2.1
  rw [e1]
  refine ⟨fl_n32 (fl_fin_eighth _), fl_n64 (fl_f2d (fl_fin_eighth _)), m_told (by decide) ?_⟩
  dsimp only
  unfold f_X9_eighths
  rw [e2, ← fl_eighth]
  refine ⟨fl_n32 (fl_fin_eighth _), fl_n64 (fl_f2d (fl_fin_eighth _)), ?_⟩
  rw [if_pos (fl_self (fl_f2d (fl_fin_eighth _)))]
  exact l_3520 hX (hS.th _) (by omega)
theorem l_boiledTotal (hp : p + 5 ≤ nn) (hn : nn ≤ 2560) (hS : ST I T t) (ht : t ≤ 8000) (hX : NX X28 p t) : f_L_law_b2205 xs nn X28 K (nI p) I L := by
  unfold f_L_law_b2205 f_X8_boiledTotal f_X9_boiledTotal f_X8_eighths
  have e1 : I 1 5 = nI (T.h.s 5) := hS.2.1.1.sc 5
  have e2 : I 191 6 = nI (T.h.s 5) := hS.2.2.1.2.2.2.2.2.1
  rw [e1]
  refine ⟨fl_n32 (fl_fin_eighth _), fl_n64 (fl_f2d (fl_fin_eighth _)), m_told (by decide) ?_⟩
  dsimp only
  unfold f_X9_eighths
  rw [e2, ← fl_eighth]
  refine ⟨fl_n32 (fl_fin_eighth _), fl_n64 (fl_f2d (fl_fin_eighth _)), ?_⟩
  rw [if_pos (fl_self (fl_f2d (fl_fin_eighth _)))]
  exact l_3520 hX (hS.th _) (by omega)
theorem l_pouredTotal (hp : p + 5 ≤ nn) (hn : nn ≤ 2560) (hS : ST I T t) (ht : t ≤ 8000) (hX : NX X28 p t) : f_L_law_b2248 xs nn X28 K (nI p) I L := by
  unfold f_L_law_b2248 f_X8_pouredTotal f_X9_pouredTotal f_X8_eighths
  have e1 : I 1 6 = nI (T.h.s 6) := hS.2.1.1.sc 6
  have e2 : I 191 7 = nI (T.h.s 6) := hS.2.2.1.2.2.2.2.2.2.1
  rw [e1]
  refine ⟨fl_n32 (fl_fin_eighth _), fl_n64 (fl_f2d (fl_fin_eighth _)), m_told (by decide) ?_⟩
  dsimp only
  unfold f_X9_eighths
  rw [e2, ← fl_eighth]
  refine ⟨fl_n32 (fl_fin_eighth _), fl_n64 (fl_f2d (fl_fin_eighth _)), ?_⟩
  rw [if_pos (fl_self (fl_f2d (fl_fin_eighth _)))]
  exact l_3520 hX (hS.th _) (by omega)
theorem l_filledTotal (hp : p + 5 ≤ nn) (hn : nn ≤ 2560) (hS : ST I T t) (ht : t ≤ 8000) (hX : NX X28 p t) : f_L_law_b2291 xs nn X28 K (nI p) I L := by
  unfold f_L_law_b2291 f_X8_filledTotal f_X9_filledTotal f_X8_eighths
  have e1 : I 1 7 = nI (T.h.s 7) := hS.2.1.1.sc 7
  have e2 : I 191 8 = nI (T.h.s 7) := hS.2.2.1.2.2.2.2.2.2.2.1
  rw [e1]
  refine ⟨fl_n32 (fl_fin_eighth _), fl_n64 (fl_f2d (fl_fin_eighth _)), m_told (by decide) ?_⟩
  dsimp only
  unfold f_X9_eighths
  rw [e2, ← fl_eighth]
  refine ⟨fl_n32 (fl_fin_eighth _), fl_n64 (fl_f2d (fl_fin_eighth _)), ?_⟩
  rw [if_pos (fl_self (fl_f2d (fl_fin_eighth _)))]
  exact l_3520 hX (hS.th _) (by omega)
theorem l_cupPrice (hp : p + 5 ≤ nn) (hn : nn ≤ 2560) (hS : ST I T t) (ht : t ≤ 8000) (hX : NX X28 p t) : f_L_law_b2334 xs nn X28 K (nI p) I L := by
  unfold f_L_law_b2334 f_X8_cupPrice f_X9_cupPrice f_X8_eighths
  have e1 : I 1 8 = nI (T.h.s 8) := hS.2.1.1.sc 8
  have e2 : I 191 9 = nI (T.h.s 8) := hS.2.2.1.2.2.2.2.2.2.2.2.1
  rw [e1]
  refine ⟨fl_n32 (fl_fin_eighth _), fl_n64 (fl_f2d (fl_fin_eighth _)), m_told (by decide) ?_⟩
  dsimp only
  unfold f_X9_eighths
  rw [e2, ← fl_eighth]
  refine ⟨fl_n32 (fl_fin_eighth _), fl_n64 (fl_f2d (fl_fin_eighth _)), ?_⟩
  rw [if_pos (fl_self (fl_f2d (fl_fin_eighth _)))]
  exact l_3520 hX (hS.th _) (by omega)
theorem l_income (hp : p + 5 ≤ nn) (hn : nn ≤ 2560) (hS : ST I T t) (ht : t ≤ 8000) (hX : NX X28 p t) : f_L_law_b2420 xs nn X28 K (nI p) I L := by
  unfold f_L_law_b2420 f_X8_income f_X9_income f_X8_eighths
  have e1 : I 14 3 = nI (lpr T.h.l) := hS.2.1.1.2.2.1.2.2.1
  have e2 : I 191 12 = nI (lpr T.h.l) := hS.2.2.1.2.2.1.1
  rw [e1]
  refine ⟨fl_n32 (fl_fin_eighth _), fl_n64 (fl_f2d (fl_fin_eighth _)), m_told (by decide) ?_⟩
  dsimp only
  unfold f_X9_eighths
  rw [e2, ← fl_eighth]
  refine ⟨fl_n32 (fl_fin_eighth _), fl_n64 (fl_f2d (fl_fin_eighth _)), ?_⟩
  rw [if_pos (fl_self (fl_f2d (fl_fin_eighth _)))]
  exact l_3520 hX (hS.th _) (by omega)
theorem l_steamPrice (hp : p + 5 ≤ nn) (hn : nn ≤ 2560) (hS : ST I T t) (ht : t ≤ 8000) (hX : NX X28 p t) : f_L_law_b2377 xs nn X28 K (nI p) I L := by
  unfold f_L_law_b2377 f_X8_steamPrice f_X9_steamPrice
  have e1 : I 1 9 = nI (T.h.s 9) := hS.2.1.1.sc 9
  have e2 : I 191 10 = nI (T.h.s 9) := hS.2.2.1.2.2.2.2.2.2.2.2.2.1
  rw [e1]
  refine ⟨fl_n64 (fl_f2d (fl_i2f _)), m_told (by decide) ?_⟩
  dsimp only
  rw [e2]
  refine ⟨fl_n64 (fl_f2d (fl_i2f _)), ?_⟩
  rw [if_pos (fl_self (fl_f2d (fl_i2f _)))]
  exact l_3520 hX (hS.th _) (by omega)
end Law
