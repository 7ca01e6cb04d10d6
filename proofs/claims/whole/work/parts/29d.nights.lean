section Law
variable {xs : Nat → Int32} {nn : Nat} {X28 : Int32 → IT → LT → Prop} {K : Int32 → IT → LT → Prop} {p : Nat} {I : IT} {L : LT} {T : TS} {t : Nat}
theorem l_nightIncome (hp : p + 5 ≤ nn) (hn : nn ≤ 2560) (hS : ST I T t) (ht : t ≤ 8000) (hX : NX X28 p t) : f_L_law_b2476 xs nn X28 K (nI p) I L := by
  unfold f_L_law_b2476
  simp only [nI_add]
  rw [inr_n (k := p + 1) (by omega), ix_n (n := p + 1) (by omega)]
  refine ⟨by omega, ?_⟩
  generalize xs (p + 1) = x
  unfold f_L_nightIncome f_X8_nightIncome f_X9_nightIncome
  have lw1 := hS.1.1.1.2.2.1
  have e1 : I 14 2 = nI (lc T.h.l) := hS.2.1.1.lc
  have e2 : I 191 13 = nI (lc T.h.l) := hS.2.2.1.2.2.1.2.1
  rw [e1]
  have h1 := xz_lt x
  have h2 := xn_lt (x := x) (n := lc T.h.l) (by omega)
  by_cases q : 0 ≤ x.toInt ∧ x.toInt < lc T.h.l
  · rw [if_neg (by rw [h1]; omega), if_pos (by rw [h2]; omega)]
    obtain ⟨x1, x2, x3⟩ := x_ix (x := x) (by omega)
    have c1 : I 15 (ix x) = nI (lin T.h.l (ix x)) := hS.2.1.1.2.2.1.2.2.2.2.2.1 (ix x) (by omega)
    have c2 : I 191 (19 + ix x) = nI (lin T.h.l (ix x)) := hS.2.2.1.2.2.1.2.2.2.2 (ix x) (by omega)
    have hin : inr x 14 := ⟨by omega, by omega⟩
    have hsum : nI 19 + x = nI (19 + ix x) := by rw [x1, nI_add, ix_n x3]
    refine ⟨hin, ?_⟩
    unfold f_X8_eighths
    rw [c1]
    refine ⟨fl_n32 (fl_fin_eighth _), fl_n64 (fl_f2d (fl_fin_eighth _)), ?_⟩
    unfold wrD
    dsimp only
    rw [e2]
    refine m_in2 (by omega) (m_isFine ?_)
    rw [if_neg (by rw [zb_eq0]; exact fun z => z q), if_pos q, hsum, inr_n (by omega), ix_n (by omega)]
    refine ⟨by omega, ?_⟩
    unfold f_X9_eighths f_X9_thrown
    dsimp only
    rw [show (up2 I 190 0 (nI 0)) 191 (19 + ix x) = nI (lin T.h.l (ix x)) by rw [up2_nea (by decide)]; exact c2, ← fl_eighth, up2_same, if_pos rfl, if_pos (by decide)]
    refine ⟨fl_n32 (fl_fin_eighth _), fl_n64 (fl_f2d (fl_fin_eighth _)), ?_⟩
    rw [if_pos (by rw [up2_same]; exact fl_self (fl_f2d (fl_fin_eighth _)))]
    exact l_3520 hX (hS.th _) (by omega)
  · have fin : ∀ Km : UInt32 → IT → Prop, Km FP.fconst0 (up2 I 190 0 (nI 1)) → f_X9_in x (nI 0) (I 191 13 - nI 1) I (fun x1 => f_X9_isFine x1 I (fun x2 I3 => if x2 = 0 then Km FP.fconst0 I3 else inr (nI 19 + x) 1236 ∧ (f_X9_eighths (I3 191 (ix (nI 19 + x))) I3 (fun x6 => Km x6 I3)))) := by
      intro Km hk
      rw [e2]
      refine m_in2 (by omega) (m_isFine ?_)
      rw [if_pos (by rw [zb_eq0]; exact q), if_neg q]
      exact hk
    unfold f_X8_nightIncome_b18
    by_cases c : x.toInt < 0
    · rw [if_pos (by rw [h1]; exact c)]
      show @ite Prop ("java/lang/IndexOutOfBoundsException" = "java/lang/IndexOutOfBoundsException") _ _ _
      rw [if_pos rfl]
      refine fin _ ?_
      unfold f_X9_thrown
      dsimp only
      rw [up2_same, if_pos rfl, if_neg (by decide)]
      exact l_3520 hX (hS.th _) (by omega)
    · rw [if_neg (by rw [h1]; exact c), if_neg (by rw [h2]; omega)]
      show @ite Prop ("java/lang/IndexOutOfBoundsException" = "java/lang/IndexOutOfBoundsException") _ _ _
      rw [if_pos rfl]
      refine fin _ ?_
      unfold f_X9_thrown
      dsimp only
      rw [up2_same, if_pos rfl, if_neg (by decide)]
      exact l_3520 hX (hS.th _) (by omega)
end Law
