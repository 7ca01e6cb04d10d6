section Law
variable {xs : Nat → Int32} {nn : Nat} {X28 : Int32 → IT → LT → Prop} {K : Int32 → IT → LT → Prop} {p : Nat} {I : IT} {L : LT} {T : TS} {t : Nat}
/-- T, saved -/
def TS.saved (T : TS) : TS := ⟨T.h, T.pc, T.p, some T.h, T.ma, T.fa, T.tx, T.ln⟩
theorem s_save {K : Int32 → IT → Prop} (w : WT t T) (hC : KCR I T) (h : ∀ I', KCR I' T.saved → Cd I I' → K (nI (kc T.h.k)) I') : f_X8_save I K := by
  obtain ⟨a1, ⟨n, n1, n2, n3, n4⟩, a3, a4, a5, a6, a7, a8⟩ := hC
  unfold f_X8_save
  refine s_copyH (a := 33) (b := 1) a1 w.1.2.2.2.2.2.2.2.1 (by omega) (a8 33 (by omega)) fun I1 r1 m1 z1 => ?_
  rw [wr_p]
  have far : ∀ q, 0 < q → (q < 33 ∨ 49 ≤ q) → (up2 I1 0 7 (nI 1)) q = I q := fun q x y => by rw [up2_ne (by omega)]; exact m1 q (by omega)
  have e34 : (up2 I1 0 7 (nI 1)) 34 5 = nI (kc T.h.k) := by rw [up2_nea (by decide)]; exact r1.kc
  have e0 : ∀ j, j ≠ 7 → (up2 I1 0 7 (nI 1)) 0 j = I 0 j := fun j hj => by rw [up2_nej hj, m1 0 (by omega)]
  rw [e34]
  refine h _ ⟨a1.same fun q x y => far q (by omega) (by omega), ⟨n, n1, by rw [e0 9 (by decide)]; exact n2, by rw [e0 8 (by decide)]; exact n3, fun i hi => (n4 i hi).same fun q x y => far q (by omega) (by omega)⟩, ?_, by rw [e0 10 (by decide)]; exact a4, by rw [e0 11 (by decide)]; exact a5, a6.same (far 60 (by omega) (by omega)) (far 61 (by omega) (by omega)), by rw [far 56 (by omega) (by omega), far 57 (by omega) (by omega)]; exact a7, fun a ha => ?_⟩ (fun q hq => far q (by omega) (by omega))
  · show (up2 I1 0 7 (nI 1)) 0 7 = nI 1 ∧ HR _ 33 T.h
    exact ⟨up2_same, r1.same fun q x y => up2_ne (by omega)⟩
  · by_cases c : a = 33
    · subst c; rw [up2_nea (by decide)]; exact z1
    · rw [far (a + 15) (by omega) (by omega)]; exact a8 a ha
theorem l_save (hp : p + 5 ≤ nn) (hn : nn ≤ 2560) (hS : ST I T t) (ht : t ≤ 8000) (hX : NX X28 p t) : f_L_law_b3463 xs nn X28 K (nI p) I L := by
  unfold f_L_law_b3463
  refine s_save hS.1 hS.2.1 fun I2 c2 d2 => ?_
  have hM := hS.2.2.same d2
  unfold f_X9_save
  rw [wr_p, wr_p]
  refine m_copies (a := 0) (b := 9) (by decide) (by decide) (by decide) fun I' g1 g2 g3 => ?_
  have e191 : (up2 (up2 I2 190 0 (nI 0)) 190 3 (nI 1)) 191 = I2 191 := by rw [up2_ne (by decide), up2_ne (by decide)]
  rw [e191] at g2 g3
  have e190 : I' 190 = (up2 (up2 I2 190 0 (nI 0)) 190 3 (nI 1)) 190 := g1 190 (by decide)
  have hj : ∀ j, j ≠ 0 → j ≠ 3 → I' 190 j = I2 190 j := fun j x y => by rw [e190, up2_nej y, up2_nej x]
  have hq : ∀ q, q ≠ 190 → q ≠ 191 → I' q = I2 q := fun q x y => by rw [g1 q y, up2_ne x, up2_ne x]
  obtain ⟨b1, b2, b3, b4, b5, b6, b7, b8⟩ := hM
  have w := hS.1
  have hpc := w.2.1
  have row0 : HM (I' 191) T.h := b1.ext w.1.1 fun j hj => g3 j (by omega)
  rw [show I' 191 1 = nI (kc T.h.k) from row0.1.1]
  dsimp only
  rw [if_pos rfl]
  refine l_3520 (T' := T.saved) hX ⟨?_, c2.same fun q hq2 => hq q (by omega) (by omega), row0, by rw [hj 2 (by decide) (by decide)]; exact b2, fun i hi => ?_, ⟨by rw [e190, up2_same], ?_⟩, by rw [hj 11 (by decide) (by decide)]; exact b5, by rw [hj 12 (by decide) (by decide)]; exact b6, by rw [hj 6 (by decide) (by decide), hq 192 (by decide) (by decide)]; exact b7, by rw [hj 8 (by decide) (by decide), hq 193 (by decide) (by decide)]; exact b8⟩ (Nat.le_add_right t 12)
  · obtain ⟨w1, w2, w3, w4, w5⟩ := w
    exact ⟨w1, w2, w3, fun S hS2 => by cases hS2; exact w1, w5⟩
  · refine (b3 i hi).ext (w.2.2.1 i hi).1 fun j hj2 => ?_
    have hi : i < T.pc := hi
    unfold row
    exact g3 _ (by show 103 * (T.pc - i) + j < 103 * 9 ∨ _; omega)
  · refine b1.ext w.1.1 fun j hj2 => ?_
    unfold row
    rw [g2 j hj2]
    congr 1; omega
end Law
