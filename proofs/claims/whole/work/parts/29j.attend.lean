/-! ===== the law's cases: setAttendant, lostShare, lineChar, append ===== -/
section B
variable {I : IT} {T : TS} {t : Nat}
theorem x_attend (hS : ST I T t) (ht : t ≤ 8000) {b : Nat} (hb : b = 0 ∨ b = 1) {A : Int32 → IT → Prop} {B : String → IT → Prop} (h : ∀ I2 r, (∀ Km : Int32 → IT → Prop, (∀ I6 T6, ST I6 T6 (t + 1) → Km (nI r) I6) → f_X9_setAttendant (nI b) I2 Km) → A (nI r) I2) : f_X8_setAttendant (nI b) I A B := by
  have hs : T.h.s 10 ≤ 1 := hS.1.1.2.2.2.2.2.2.2.1
  have er : resN 11 T.h (ix (nI b)) (ix (nI 0)) (ix (nI 0)) (ix (nI 0)) = T.h.s 10 := rfl
  have hm9 : ∀ I2 : IT, ∀ Km : Int32 → IT → Prop, f_X9_begins I2 (fun I1 => f_X9_attends (nI b) I1 (fun x2 I3 => f_X9_ends x2 (nI 0) (nI 0) (nI 0) (nI 0) I3 (fun x3 I4 => if x3 = nI 1 then Km (nI 1) I4 else Km (nI 0) I4))) → f_X9_setAttendant (nI b) I2 Km := by
    intro I2 Km hh
    unfold f_X9_setAttendant f_X9_setAttendant_b15
    rcases hb with rfl | rfl
    · simp only [nul_eq0, if_true]; exact hh
    · simp only [one_eq0, if_false]; exact hh
  have main : f_X8_change 1000011 (nI b) (nI 0) (nI 0) (nI 0) I (fun x1 I2 => if x1 = 0 then A (nI 0) I2 else A (nI 1) I2) B := by
    refine j_change (v := 11) (by decide) (nI b) (nI 0) (nI 0) (nI 0) hS ht (fun _ => ?_) (V := fun I K => f_X9_attends (nI b) I K) (fun I1 K1 hM hk => m_attends hM hS.1.1.1 (nI b) _ _ _ ?_ hk) 0 0 0 0 (fun r e hr => absurd (e.symm.trans (ref11 _ _ _ _ _)) hr) (fun e I2 hm => ?_) (fun r e hr hm => absurd (e.symm.trans (ref11 _ _ _ _ _)) hr)
    · rw [nI_toInt (by omega)]; omega
    · rw [nI_toInt (by omega)]; omega
    · rw [er] at hm ⊢
      rcases (show T.h.s 10 = 0 ∨ T.h.s 10 = 1 by omega) with c | c
      · rw [c] at hm ⊢
        rw [if_pos (by decide)]
        refine h I2 0 fun Km hk => hm9 I2 Km (hm _ fun I6 s6 e6 => ?_)
        rw [if_neg (by decide)]
        exact hk I6 _ s6
      · rw [c] at hm ⊢
        rw [if_neg (by decide)]
        refine h I2 1 fun Km hk => hm9 I2 Km (hm _ fun I6 s6 e6 => ?_)
        rw [if_pos rfl]
        exact hk I6 _ s6
  unfold f_X8_setAttendant f_X8_setAttendant_b13
  rcases hb with rfl | rfl
  · rw [if_pos (by decide)]; exact main
  · rw [if_neg (by decide)]; exact main
end B
section Law
variable {xs : Nat → Int32} {nn : Nat} {X28 : Int32 → IT → LT → Prop} {K : Int32 → IT → LT → Prop} {p : Nat} {I : IT} {L : LT} {T : TS} {t : Nat}
theorem l_setAttendant (hp : p + 5 ≤ nn) (hn : nn ≤ 2560) (hS : ST I T t) (ht : t ≤ 8000) (hX : NX X28 p t) : f_L_law_b1012 xs nn X28 K (nI p) I L := by
  have go : ∀ b : Nat, (b = 0 ∨ b = 1) → (b = 0 ↔ xs (p + 1) = 0) → f_L_law_b1027 xs nn X28 K (nI p) (nI b) I L := by
    intro b hb hx
    unfold f_L_law_b1027
    simp only [nI_add]
    rw [inr_n (k := p + 1) (by omega), ix_n (n := p + 1) (by omega)]
    refine x_attend hS ht hb fun I2 r hm => ?_
    refine ⟨by omega, ?_⟩
    have fin : f_L_law_b1045 xs nn X28 K (nI p) (nI r) (nI b) I2 L := by
      unfold f_L_law_b1045
      refine hm _ fun I6 T6 s6 => ?_
      rw [if_pos rfl]
      exact l_3520 hX s6 (by omega)
    by_cases c : xs (p + 1) = 0
    · rw [if_pos c]
      have e : b = 0 := hx.mpr c
      rw [e] at fin; exact fin
    · rw [if_neg c]
      have e : b = 1 := by
        rcases hb with e | e
        · exact absurd (hx.mp e) c
        · exact e
      rw [e] at fin; exact fin
  unfold f_L_law_b1012
  simp only [nI_add]
  rw [inr_n (k := p + 1) (by omega), ix_n (n := p + 1) (by omega)]
  refine ⟨by omega, ?_⟩
  by_cases c : xs (p + 1) = 0
  · rw [if_pos c]; exact go 0 (Or.inl rfl) ⟨fun _ => c, fun _ => rfl⟩
  · rw [if_neg c]; exact go 1 (Or.inr rfl) ⟨fun q => by omega, fun q => absurd q c⟩
theorem l_lostShare (hp : p + 5 ≤ nn) (hn : nn ≤ 2560) (hS : ST I T t) (ht : t ≤ 8000) (hX : NX X28 p t) : f_L_law_b2956 xs nn X28 K (nI p) I L := by
  unfold f_L_law_b2956 f_L_lostShare f_X8_lostShare f_X9_lostShare
  have c12 : I 1 12 = nI (T.h.s 12) := hS.2.1.1.sc 12
  have c13 : I 1 13 = nI (T.h.s 13) := hS.2.1.1.sc 13
  have m15 : I 191 15 = nI (T.h.s 12) := hS.2.2.1.2.2.2.2.2.2.2.2.2.2.2.2.1
  have m16 : I 191 16 = nI (T.h.s 13) := hS.2.2.1.2.2.2.2.2.2.2.2.2.2.2.2.2
  have hb : T.h.s 12 + T.h.s 13 ≤ 480 * t := hS.1.1.2.2.2.2.2.2.2.2.2.1
  rw [c12, c13, nI_add]
  generalize hn2 : T.h.s 12 + T.h.s 13 = n2 at *
  rw [bnd_p]
  have g1 := n_lt0 (a := n2) (by omega)
  have g2 := n_le0 (a := n2) (by omega)
  simp only [g1]
  by_cases c : 0 < n2
  · rw [if_pos c]
    have hz : ¬ FP.Core.FZero (FP.i2f (nI n2)) := fun q => FP.Core.i2f_ne_zero (v := nI n2) (by intro e; have := (nz_eq (show n2 < 2147483648 by omega)).mp e; omega) ((FP.Core.zero_bits232 _).mp q)
    have hN : FP.fIsNaN (FP.fdiv (FP.i2f (nI (T.h.s 13))) (FP.i2f (nI n2))) = false := FP.Core.fdiv_out (fl_i2f _) (FP.Core.i2f_fin _) hz
    refine ⟨fl_n32 hN, fl_n64 (fl_f2d hN), ?_⟩
    unfold wrD
    dsimp only
    rw [m15, m16, nI_add, hn2, bnd_p, if_neg (by rw [g2]; omega)]
    unfold f_X9_lostShare_b26
    refine m_fine1 ?_
    rw [if_neg (by decide)]
    unfold f_X9_thrown
    rw [show (up2 I 190 0 (nI 0)) 191 16 = nI (T.h.s 13) by rw [up2_nea (by decide)]; exact m16]
    dsimp only
    refine ⟨fl_n32 hN, ?_⟩
    rw [up2_same, if_pos rfl, if_pos (by decide)]
    refine ⟨fl_n64 (fl_f2d hN), ?_⟩
    rw [if_pos (by rw [up2_same]; exact fl_self (fl_f2d hN))]
    exact l_3520 hX (hS.th _) (by omega)
  · rw [if_neg c]
    rw [if_pos trivial]
    rw [m15, m16, nI_add, hn2, bnd_p, if_pos (by rw [g2]; omega)]
    unfold f_X9_lostShare_b26
    refine m_fine0 ?_
    rw [if_pos (by decide)]
    unfold f_X9_thrown
    dsimp only
    rw [up2_same, if_pos rfl, if_neg (by decide)]
    exact l_3520 hX (hS.th _) (by omega)
theorem l_lineChar (hp : p + 5 ≤ nn) (hn : nn ≤ 2560) (hS : ST I T t) (ht : t ≤ 8000) (hX : NX X28 p t) : f_L_law_b3160 xs nn X28 K (nI p) I L := by
  unfold f_L_law_b3160
  simp only [nI_add]
  rw [inr_n (k := p + 1) (by omega), ix_n (n := p + 1) (by omega)]
  refine ⟨by omega, ?_⟩
  generalize xs (p + 1) = x
  unfold f_L_lineChar f_X8_lineChar f_X9_lineChar f_X8_lineChar_b15 f_J4_length_8abf5
  have lw := hS.1.2.2.2.2.2.2.2.2.1
  have lc := hS.1.2.2.2.2.2.2.2.2.2
  obtain ⟨l1, l2, l3⟩ := hS.2.1.2.2.2.2.2.1
  obtain ⟨m1, m2⟩ := hS.2.2.2.2.2.2.2.2.1
  have no : ¬ (0 ≤ x.toInt ∧ x.toInt < T.ln.length) → f_X9_in x (nI 0) (I 190 6 - nI 1) I (fun x1 => f_X9_isFine x1 I (fun x2 I3 => if x2 = 0 then f_X9_thrown I3 (fun x7 => if x7 = nI 1 then if nI 1 = 0 then if lg_cmp (L.1 195 0) (nI 0).toInt64 = 0 then f_L_law_b3520 xs nn X28 K (nI p) I3 L else K (nI 0) I3 L else f_L_law_b3520 xs nn X28 K (nI p) I3 L else K (nI 0) I3 L) else inr x 240 ∧ isC (I3 192 (ix x)) ∧ f_X9_thrown I3 (fun x7 => if x7 = nI 1 then if nI 1 = 0 then if lg_cmp (L.1 195 0) (I3 192 (ix x)).toInt64 = 0 then f_L_law_b3520 xs nn X28 K (nI p) I3 L else K (nI 0) I3 L else f_L_law_b3520 xs nn X28 K (nI p) I3 L else K (nI 0) I3 L))) := by
    intro q
    rw [m1]
    refine m_in2 (by omega) (m_isFine ?_)
    rw [if_pos (by rw [zb_eq0]; exact q), if_neg q]
    unfold f_X9_thrown
    dsimp only
    rw [up2_same, if_pos rfl, if_neg (by decide)]
    exact l_3520 hX (hS.th _) (by omega)
  have h1 := xz_lt x
  have h2 := xn_lt (x := x) (n := T.ln.length) (by omega)
  by_cases c : x.toInt < 0
  · rw [if_pos (by rw [h1]; exact c)]
    show @ite Prop ("java/lang/IndexOutOfBoundsException" = "java/lang/IndexOutOfBoundsException") _ _ _
    rw [if_pos rfl]
    exact no (by omega)
  · rw [if_neg (by rw [h1]; exact c)]
    dsimp only
    rw [l1]
    by_cases c2 : x.toInt < T.ln.length
    · rw [if_pos (by rw [h2]; exact c2)]
      obtain ⟨x1, x2, x3⟩ := x_ix (x := x) (by omega)
      have hi : ix x < T.ln.length := by omega
      have bc : T.ln.getD (ix x) 0 < 128 := lc _ (by
        rw [List.getD_eq_getElem?_getD, List.getElem?_eq_getElem hi, Option.getD_some]
        exact List.getElem_mem hi)
      have e1 := l3 (ix x) hi
      have e2 := m2 (ix x) hi
      unfold f_J4_charAt_5068e
      refine ⟨⟨by omega, by rw [l1, nI_toInt (by omega)]; exact c2⟩, ?_⟩
      rw [e1]
      unfold wrL
      dsimp only
      rw [m1]
      refine m_in2 (by omega) (m_isFine ?_)
      rw [if_neg (by rw [zb_eq0]; exact fun z => z ⟨by omega, c2⟩), if_pos ⟨by omega, c2⟩]
      refine ⟨⟨by omega, by omega⟩, ?_⟩
      rw [show (up2 I 190 0 (nI 0)) 192 (ix x) = nI (T.ln.getD (ix x) 0) by rw [up2_nea (by decide)]; exact e2]
      refine ⟨by unfold isC; rw [nI_toInt (by omega)]; omega, ?_⟩
      unfold f_X9_thrown
      dsimp only
      rw [up2_same, if_pos rfl, if_pos (by decide)]
      rw [if_pos (by rw [up2_same]; exact lg_self _)]
      exact l_3520 hX (hS.th _) (by omega)
    · rw [if_neg (by rw [h2]; exact c2)]
      show @ite Prop ("java/lang/IndexOutOfBoundsException" = "java/lang/IndexOutOfBoundsException") _ _ _
      rw [if_pos rfl]
      exact no (by omega)
end Law
