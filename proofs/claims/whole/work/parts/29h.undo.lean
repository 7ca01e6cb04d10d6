section Law
variable {xs : Nat → Int32} {nn : Nat} {X28 : Int32 → IT → LT → Prop} {K : Int32 → IT → LT → Prop} {p : Nat} {I : IT} {L : LT} {T : TS} {t : Nat}
/-- T, one change undone -/
def TS.undone (T : TS) : TS := ⟨T.p 0, T.pc - 1, fun i => T.p (i + 1), T.sv, T.ma, T.fa, T.tx, T.ln⟩
theorem l_undo (hp : p + 5 ≤ nn) (hn : nn ≤ 2560) (hS : ST I T t) (ht : t ≤ 8000) (hX : NX X28 p t) : f_L_law_b3419 xs nn X28 K (nI p) I L := by
  unfold f_L_law_b3419 f_L_undo f_X8_undo
  obtain ⟨w, hC, hM⟩ := hS
  have hpc := w.2.1
  obtain ⟨n, n1, n2, n3, n4⟩ := hC.2.1
  have c2 : I 190 2 = nI T.pc := hM.2.1
  have hlt := n_lt0 (a := T.pc) (by omega)
  have hle := n_le0 (a := T.pc) (by omega)
  rw [n3]
  by_cases e : T.pc = 0
  · rw [if_neg (by rw [hlt]; omega)]
    show @ite Prop ("java/lang/IllegalStateException" = "java/lang/IllegalStateException") _ _ _
    rw [if_pos rfl]
    unfold f_X9_undo
    dsimp only
    rw [c2, if_pos (by rw [hle]; exact e)]
    unfold f_X9_undo_b13
    refine m_fine0 ?_
    rw [if_pos (by decide)]
    unfold f_X9_thrown
    dsimp only
    rw [up2_same, if_pos rfl, if_neg (by decide)]
    exact l_3520 hX ((show ST I T t from ⟨w, hC, hM⟩).th _) (by omega)
  · have w0 := w.2.2.1 0 (by omega)
    have hmod : nI n + nI 8 - nI 1 - (nI n + nI 8 - nI 1) / nI 8 * nI 8 = nI ((n + 7) % 8) := by
      rw [nI_add, n_sub (by omega), n_div (by omega) (by omega) (by omega), pk_mul, n_sub (by omega)]
      congr 1; omega
    rw [if_pos (by rw [hlt]; omega), n2, hmod, wr_p, wr_p, up2_nej (show (8 : Nat) ≠ 9 by decide), n3, n_sub (by omega)]
    rw [show (up2 (up2 I 0 9 (nI ((n + 7) % 8))) 0 8 (nI (T.pc - 1))) 0 9 = nI ((n + 7) % 8) by rw [up2_nej (by decide), up2_same], inr_n (by omega), ix_n (by omega)]
    refine ⟨by omega, ?_⟩
    have r0 := n4 0 (by omega)
    rw [Nat.sub_zero] at r0
    have f1 : ∀ q, 0 < q → (up2 (up2 I 0 9 (nI ((n + 7) % 8))) 0 8 (nI (T.pc - 1))) q = I q := fun q hq => by rw [up2_ne (by omega), up2_ne (by omega)]
    refine s_copyH (a := 1) (b := 62 + 16 * ((n + 7) % 8)) (H := T.p 0) (r0.same fun q x y => f1 q (by omega)) w0.2.2.2.2.2.2.2.1 (by omega) (by rw [f1 16 (by omega)]; exact hC.2.2.2.2.2.2.2 1 (by omega)) fun J r1 m1 z1 => ?_
    have far : ∀ q, 17 ≤ q → J q = I q := fun q x => by rw [m1 q (by omega)]; exact f1 q (by omega)
    have j0 : J 0 = (up2 (up2 I 0 9 (nI ((n + 7) % 8))) 0 8 (nI (T.pc - 1))) 0 := m1 0 (by omega)
    have hC2 : KCR J T.undone := by
      refine hC.of r1 ⟨(n + 7) % 8, by omega, by rw [j0, up2_nej (by decide), up2_same], by rw [j0, up2_same]; rfl, fun i hi => ?_⟩ (fun q x y => far q (by omega)) (fun j hj => by rw [j0, up2_nej (by omega), up2_nej (by omega)]) (fun a ha => ?_) rfl rfl rfl rfl rfl
      · have hi : i < T.pc - 1 := hi
        have := n4 (i + 1) (by omega)
        rw [show ((n + 7) % 8 + 7 - i) % 8 = (n + 7 - (i + 1)) % 8 by omega]
        exact this.same fun q x y => far q (by omega)
      · by_cases c : a = 1
        · subst c; exact z1
        · have : 17 ≤ a + 15 := by rcases ha with q | q | q | ⟨k, q1, q2⟩ <;> omega
          rw [far _ this]; exact hC.2.2.2.2.2.2.2 a ha
    rw [show J 0 8 = nI (T.pc - 1) by rw [j0, up2_same]]
    unfold wrL
    have hM2 := hM.same (I' := J) (fun q hq => far q (by omega))
    have d2 : J 190 2 = nI T.pc := hM2.2.1
    unfold f_X9_undo
    dsimp only
    rw [d2, if_neg (by rw [hle]; exact e)]
    unfold f_X9_undo_b13
    refine m_fine1 ?_
    rw [if_neg (by decide), show (up2 J 190 0 (nI 0)) 190 2 = nI T.pc by rw [up2_nej (by decide)]; exact d2]
    refine m_copies (a := T.pc) (b := 0) (by omega) (by decide) e fun I' g1 g2 g3 => ?_
    have e191 : (up2 J 190 0 (nI 0)) 191 = J 191 := up2_ne (by decide)
    rw [e191] at g2 g3
    have e190 : I' 190 = (up2 J 190 0 (nI 0)) 190 := g1 190 (by decide)
    rw [wr_p, show I' 190 2 = nI T.pc by rw [e190, up2_nej (by decide)]; exact d2, n_sub (by omega), show (up2 I' 190 2 (nI (T.pc - 1))) 190 2 = nI (T.pc - 1) from up2_same]
    have row0 : HM ((up2 I' 190 2 (nI (T.pc - 1))) 191) (T.p 0) := by
      refine (hM2.2.2.1 0 (by omega)).ext w0.1 fun j hj => ?_
      have := g2 j hj
      rw [show 103 * 0 + j = j by omega] at this
      rw [up2_nea (by decide), this]; rfl
    have md : Md2 J (up2 I' 190 2 (nI (T.pc - 1))) := ⟨fun q x y => by rw [up2_ne x, g1 q y, up2_ne x], fun j x y z => by rw [up2_nej y, e190, up2_nej x]⟩
    have hM3 : MR (up2 I' 190 2 (nI (T.pc - 1))) T.undone := by
      refine hM2.of md row0 up2_same (fun i hi => ?_) (fun S2 hS2 h9 => h9.ext (w.2.2.2.1 S2 hS2).1 fun j hj => ?_) rfl rfl rfl rfl rfl
      · have hi : i < T.pc - 1 := hi
        show HM (row _ (T.pc - 1 - i)) (T.p (i + 1))
        refine (hM2.2.2.1 (i + 1) (by omega)).ext (w.2.2.1 (i + 1) (by omega)).1 fun j hj => ?_
        unfold row
        rw [up2_nea (by decide), g3 _ (by omega)]
        congr 1; omega
      · unfold row
        rw [up2_nea (by decide)]
        exact g3 _ (by omega)
    have w2 : WT t T.undone := by
      obtain ⟨w1, w2, w3, w4, w5⟩ := w
      exact ⟨w0, by show T.pc - 1 ≤ 8; omega, fun i hi => w3 (i + 1) (by have hi : i < T.pc - 1 := hi; omega), w4, w5⟩
    unfold f_X9_thrown
    dsimp only
    rw [show (up2 I' 190 2 (nI (T.pc - 1))) 190 0 = nI 0 by rw [up2_nej (by decide), e190, up2_same], if_pos rfl, if_pos (by decide)]
    rw [if_pos (by rw [up2_same]; exact lg_self _)]
    exact l_3520 hX ⟨w2, hC2.same fun q hq => md.1 q (by omega) (by omega), hM3⟩ (by omega)
end Law
