section Law
variable {xs : Nat → Int32} {nn : Nat} {X28 : Int32 → IT → LT → Prop} {K : Int32 → IT → LT → Prop} {p : Nat} {I : IT} {L : LT} {T : TS} {t : Nat}
/-- T, put back to S -/
def TS.back (T : TS) (S : HS) : TS := ⟨S, 0, T.p, T.sv, T.ma, T.fa, T.tx, T.ln⟩
theorem l_restore (hp : p + 5 ≤ nn) (hn : nn ≤ 2560) (hS : ST I T t) (ht : t ≤ 8000) (hX : NX X28 p t) : f_L_law_b3476 xs nn X28 K (nI p) I L := by
  unfold f_L_law_b3476 f_L_restore f_X8_restore
  obtain ⟨w, hC, hM⟩ := hS
  have hc3 := hC.2.2.1
  have hm4 := hM.2.2.2.1
  cases e : T.sv with
  | none =>
    rw [e] at hc3 hm4
    have c7 : I 0 7 = nI 0 := hc3
    have c3 : I 190 3 = nI 0 := hm4
    rw [c7, if_pos (by decide)]
    show @ite Prop ("java/lang/IllegalStateException" = "java/lang/IllegalStateException") _ _ _
    rw [if_pos rfl]
    unfold f_X9_restore
    dsimp only
    rw [c3]
    refine ⟨Or.inl rfl, m_fine0 ?_⟩
    rw [if_pos (by decide)]
    unfold f_X9_thrown
    dsimp only
    rw [up2_same, if_pos rfl, if_neg (by decide)]
    exact l_3520 hX ((show ST I T t from ⟨w, hC, hM⟩).th _) (by omega)
  | some S =>
    rw [e] at hc3 hm4
    obtain ⟨c7, r33⟩ : I 0 7 = nI 1 ∧ HR I 33 S := hc3
    obtain ⟨c3, r9⟩ : I 190 3 = nI 1 ∧ HM (row I 9) S := hm4
    have wS := w.2.2.2.1 S e
    rw [c7, if_neg (by decide)]
    refine s_copyH (a := 1) (b := 33) r33 wS.2.2.2.2.2.2.2.1 (by omega) (hC.2.2.2.2.2.2.2 1 (by omega)) fun I1 r1 m1 z1 => ?_
    rw [wr_p]
    have far : ∀ q, 17 ≤ q → (up2 I1 0 8 (nI 0)) q = I q := fun q x => by rw [up2_ne (by omega)]; exact m1 q (by omega)
    have e25 : (up2 I1 0 8 (nI 0)) 2 5 = nI (kc S.k) := by rw [up2_nea (by decide)]; exact r1.kc
    have e0 : ∀ j, j ≠ 8 → (up2 I1 0 8 (nI 0)) 0 j = I 0 j := fun j hj => by rw [up2_nej hj, m1 0 (by omega)]
    obtain ⟨n, n1, n2, n3, n4⟩ := hC.2.1
    have hC2 : KCR (up2 I1 0 8 (nI 0)) (T.back S) := by
      refine hC.of (r1.same fun q x y => up2_ne (by omega)) ⟨n, n1, by rw [e0 9 (by decide)]; exact n2, up2_same, fun i hi => absurd hi (Nat.not_lt_zero i)⟩ (fun q x y => far q (by omega)) (fun j hj => e0 j (by omega)) (fun a ha => ?_) rfl rfl rfl rfl rfl
      by_cases c : a = 1
      · subst c; rw [up2_nea (by decide)]; exact z1
      · have : 17 ≤ a + 15 := by rcases ha with q | q | q | ⟨k, q1, q2⟩ <;> omega
        rw [far _ this]; exact hC.2.2.2.2.2.2.2 a ha
    rw [e25]
    unfold wrL
    have hM2 := hM.same (I' := up2 I1 0 8 (nI 0)) (fun q hq => far q (by omega))
    generalize up2 I1 0 8 (nI 0) = J at *
    have j3 : J 190 3 = nI 1 := by rw [far 190 (by omega)]; exact c3
    unfold f_X9_restore
    dsimp only
    rw [j3]
    refine ⟨Or.inr rfl, m_fine1 ?_⟩
    rw [if_neg (by decide)]
    refine m_copies (a := 9) (b := 0) (by decide) (by decide) (by decide) fun I' g1 g2 g3 => ?_
    have e191 : (up2 J 190 0 (nI 0)) 191 = J 191 := up2_ne (by decide)
    rw [e191] at g2 g3
    have e190 : I' 190 = (up2 J 190 0 (nI 0)) 190 := g1 190 (by decide)
    rw [wr_p]
    have row0 : HM ((up2 I' 190 2 (nI 0)) 191) S := by
      refine r9.ext wS.1 fun j hj => ?_
      have := g2 j hj
      rw [show 103 * 0 + j = j by omega] at this
      rw [up2_nea (by decide), this, far 191 (by omega)]; rfl
    have md : Md2 J (up2 I' 190 2 (nI 0)) := ⟨fun q x y => by rw [up2_ne x, g1 q y, up2_ne x], fun j x y z => by rw [up2_nej y, e190, up2_nej x]⟩
    have hM3 : MR (up2 I' 190 2 (nI 0)) (T.back S) := by
      refine hM2.of md row0 up2_same (fun i hi => absurd hi (Nat.not_lt_zero i)) (fun S2 hS2 h9 => h9.ext (w.2.2.2.1 S2 hS2).1 fun j hj => ?_) rfl rfl rfl rfl rfl
      unfold row
      rw [up2_nea (by decide)]
      exact g3 _ (by omega)
    have w2 : WT t (T.back S) := by
      obtain ⟨w1, w2, w3, w4, w5⟩ := w
      exact ⟨wS, Nat.zero_le _, fun i hi => absurd hi (Nat.not_lt_zero i), w4, w5⟩
    unfold f_X9_thrown
    dsimp only
    rw [show (up2 I' 190 2 (nI 0)) 191 1 = nI (kc S.k) from row0.1.1, show (up2 I' 190 2 (nI 0)) 190 0 = nI 0 by rw [up2_nej (by decide), e190, up2_same], if_pos rfl, if_pos (by decide)]
    rw [if_pos (by rw [up2_same]; exact lg_self _)]
    exact l_3520 hX ⟨w2, hC2.same fun q hq => md.1 q (by omega) (by omega), hM3⟩ (by omega)
end Law
