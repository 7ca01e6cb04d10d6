theorem wrL_i {L : LT} {v : Int64} {K : LT → Prop} (h : K (up2 L.1 195 0 v, L.2)) : wrL L v K := h
section Law
variable {xs : Nat → Int32} {nn : Nat} {X28 : Int32 → IT → LT → Prop} {K : Int32 → IT → LT → Prop} {p : Nat} {I : IT} {L : LT} {T : TS} {t : Nat}
set_option maxHeartbeats 200000 in
theorem l_run (hp : p + 5 ≤ nn) (hn : nn ≤ 2560) (hS : ST I T t) (ht : t ≤ 7000) (hX : NX X28 p t) : f_L_law_b3274 xs nn X28 K (nI p) I L := by
  unfold f_L_law_b3274 f_L_run
  have hg : ∀ j, T.tx.length ≤ j → T.tx.getD j 0 = 0 := fun j hj => by rw [List.getD_eq_getElem?_getD, List.getElem?_eq_none hj, Option.getD_none]
  have hg2 : ∀ j, T.tx.getD j 0 < 128 := fun j => by
    by_cases q : j < T.tx.length
    · have := hS.1.2.2.2.2.2.2.2.1 (T.tx.getD j 0) (by
        rw [List.getD_eq_getElem?_getD, List.getElem?_eq_getElem q, Option.getD_some]
        exact List.getElem_mem q)
      omega
    · rw [hg j (by omega)]; decide
  have w := hS.1
  refine s_run (g := fun j => T.tx.getD j 0) hg hg2 (fun _ _ => rfl) w ht hS.2.1 (fun e he I2 c2 d2 => ?_) (fun cs k he hk hgo hne I2 c2 d2 => ?_) (fun cs he hgo I2 c2 d2 => ?_)
  · rw [if_pos rfl]
    have eb := progP_inl (Nat.zero_le _) he
    have hl60 := w.2.2.2.2.2.2.1
    refine m_run (g := fun j => T.tx.getD j 0) hg hg2 (fun _ _ => rfl) w ht (hS.2.2.same d2) (fun e2 h2 I3 m3 r3 z3 => ?_) 0 (fun cs z => by rw [he] at z; cases z) (fun cs z => by rw [he] at z; cases z) (fun cs z => by rw [he] at z; cases z)
    rw [he] at h2
    cases h2
    unfold f_X9_thrown
    dsimp only
    rw [z3, if_pos rfl, if_neg (by decide)]
    exact l_3520 hX ⟨w.mal (by omega), c2.same r3, m3⟩ (by omega)
  · rw [if_neg (by decide), if_pos rfl]
    obtain ⟨q1, q2, q3⟩ := progP_inr (Nat.zero_le _) he
    have hl60 := w.2.2.2.2.2.2.1
    refine m_run (g := fun j => T.tx.getD j 0) hg hg2 (fun _ _ => rfl) w ht (hS.2.2.same d2) (fun e2 h2 => by rw [he] at h2; cases h2) k (fun cs2 z => by rw [he] at z; cases z; exact ⟨by omega, hgo, fun _ => hne⟩) (fun cs2 z lt I3 m3 r3 z3 => ?_) (fun cs2 z y => by rw [he] at z; cases z; omega)
    unfold f_X9_thrown
    dsimp only
    rw [z3, if_pos rfl, if_neg (by decide)]
    exact l_3520 hX ⟨w.fail (by omega), c2.same r3, m3⟩ (by omega)
  · refine wrL_i ?_
    obtain ⟨q1, q2, q3⟩ := progP_inr (Nat.zero_le _) he
    have hl60 := w.2.2.2.2.2.2.1
    refine m_run (g := fun j => T.tx.getD j 0) hg hg2 (fun _ _ => rfl) w ht (hS.2.2.same d2) (fun e2 h2 => by rw [he] at h2; cases h2) cs.length (fun cs2 z => by rw [he] at z; cases z; exact ⟨Nat.le_refl _, hgo, fun y => by omega⟩) (fun cs2 z lt => by rw [he] at z; cases z; omega) (fun cs2 z y I3 m3 r3 z3 => ?_)
    rw [he] at z
    cases z
    obtain ⟨w2, t2⟩ := hgo.1 cs.length (Nat.le_refl _)
    unfold f_X9_thrown
    dsimp only
    rw [z3, if_pos rfl, if_pos (by decide)]
    rw [if_pos (by rw [up2_same]; exact lg_self _)]
    refine l_3520 hX (t' := t + cs.length + 1) ⟨?_, c2.same r3, m3⟩ (by omega)
    exact WT.push (w.cut.mono (by omega)) w2 (t2.mono (by omega))
end Law
